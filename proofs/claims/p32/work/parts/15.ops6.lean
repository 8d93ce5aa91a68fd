section
variable {D : va_G} {A : Nat → Prop} {l : Launch}
-- 89: MarginaliaLaw$Page.<init>([II)V
def dl_89_0 : List (Nat × Instr × Nat) := [(0, .aload_n 0, 1), (1, .invokespecial 1, 3), (4, .aload_n 0, 1), (5, .new 7, 3), (8, .dup, 1), (9, .invokespecial 9, 3), (12, .putfield 10, 3), (15, .aload_n 0, 1), (16, .iconst 0, 1), (17, .newarray .int, 2), (19, .putfield 16, 3), (22, .aload_n 0, 1), (23, .iconst 1, 1), (24, .iconst 0, 1), (25, .multianewarray 20 2, 4), (29, .putfield 22, 3), (32, .aload_n 0, 1), (33, .iconst 0, 1), (34, .anewarray 25, 3), (37, .putfield 26, 3), (40, .aload_n 0, 1), (41, .iconst 0, 1), (42, .anewarray 25, 3), (45, .putfield 30, 3), (48, .aload_n 0, 1), (49, .aload_n 1, 1), (50, .putfield 33, 3), (53, .aload_n 0, 1), (54, .iload_n 2, 1), (55, .putfield 36, 3), (58, .return_, 1)]
theorem dk_89_0 : ∀ q ∈ dl_89_0, decode (mCod (MdP 89)) q.1 = .ok q.2 := by
  rw [show mCod (MdP 89) = cX6_init from rfl]
  decide +kernel
def tb_89_0 : List (Nat × Op1) := [(0, oLdR 0 1), (1, oObj), (4, oLdR 0 1), (5, oNew 6 7), (8, oDup), (9, oCallV 31 0 1 6 []), (12, oPutR 7 0), (15, oLdR 0 1), (16, oCI 0 1), (17, oNewA 10 2), (19, oPutR 7 3), (22, oLdR 0 1), (23, oCI 1 1), (24, oCI 0 1), (25, oNew3), (29, oPutR 7 5), (32, oLdR 0 1), (33, oCI 0 1), (34, oNewA 14 3), (37, oPutR 7 6), (40, oLdR 0 1), (41, oCI 0 1), (42, oNewA 14 3), (45, oPutR 7 7), (48, oLdR 0 1), (49, oLdR 1 1), (50, oPutR 7 1), (53, oLdR 0 1), (54, oLdI 2 1), (55, oPutI 7 2), (58, oRetV)]
theorem sm_89_0 : ∀ q ∈ tb_89_0, SM GwP MdP D A l 89 q.1 q.2 :=
  List.forall_mem_cons.mpr ⟨sd_oLdR_n 89 0 0 0 rfl (dk_89_0 (0, .aload_n 0, 1) (List.mem_of_getElem? (i := 0) rfl)),
  List.forall_mem_cons.mpr ⟨sd_obj 89 1 1 (iw_89 _ zw332) (iw_89 _ zw1) (iw_89 _ zw2) (by decide) (by decide) (dk_89_0 (1, .invokespecial 1, 3) (List.mem_of_getElem? (i := 1) rfl)),
  List.forall_mem_cons.mpr ⟨sd_oLdR_n 89 4 0 0 rfl (dk_89_0 (4, .aload_n 0, 1) (List.mem_of_getElem? (i := 2) rfl)),
  List.forall_mem_cons.mpr ⟨sd_new 89 5 6 7 RX5 TX5 7 rfl ⟨by decide, by decide⟩ rfl (fun w h => iw_89 w (uz_5 w h)) tyX5 tyX5_ok df_5 (iw_89 _ zw333) (iw_89 _ zw334) (iw_89 _ zw63) (by decide) (dk_89_0 (5, .new 7, 3) (List.mem_of_getElem? (i := 3) rfl)),
  List.forall_mem_cons.mpr ⟨sd_dup 89 8 (dk_89_0 (8, .dup, 1) (List.mem_of_getElem? (i := 4) rfl)),
  List.forall_mem_cons.mpr ⟨sd_callI 89 9 31 0 1 9 6 [] (gdI hws_89 hws_31 zw335) rfl (iw_89 _ zw63) (iw_89 _ zw336) (iw_89 _ zw337) rfl hws_31 rfl (by decide +kernel) rfl rfl ⟨by decide +kernel, by decide +kernel, by decide +kernel⟩ ⟨by decide, by decide⟩ (catch_nil rfl) RX5 TX5 7 rfl ⟨by decide, by decide⟩ (dk_89_0 (9, .invokespecial 9, 3) (List.mem_of_getElem? (i := 5) rfl)),
  List.forall_mem_cons.mpr ⟨sd_oPutRF 89 12 7 0 10 RX6 TX6 8 rfl ⟨by decide, by decide⟩ rfl (by decide) rfl (fun w h => iw_89 w (uz_6 w h)) rfl tyX6 tyX6_ok nmX6 (Or.inl ⟨_, rfl⟩) rfl rfl rfl (iw_89 _ zw338) (dk_89_0 (12, .putfield 10, 3) (List.mem_of_getElem? (i := 6) rfl)),
  List.forall_mem_cons.mpr ⟨sd_oLdR_n 89 15 0 0 rfl (dk_89_0 (15, .aload_n 0, 1) (List.mem_of_getElem? (i := 7) rfl)),
  List.forall_mem_cons.mpr ⟨sd_iconst 89 16 0 ⟨by decide, by decide⟩ (dk_89_0 (16, .iconst 0, 1) (List.mem_of_getElem? (i := 8) rfl)),
  List.forall_mem_cons.mpr ⟨sd_newA 89 17 10 .int (Or.inl ⟨rfl, rfl⟩) (iw_89 _ zw22) (dk_89_0 (17, .newarray .int, 2) (List.mem_of_getElem? (i := 9) rfl)),
  List.forall_mem_cons.mpr ⟨sd_oPutR 89 19 7 3 16 RX6 TX6 8 rfl ⟨by decide, by decide⟩ rfl (by decide) rfl (fun w h => iw_89 w (uz_6 w h)) rfl tyX6 tyX6_ok nmX6 (Or.inr ⟨_, rfl⟩) rfl (iw_89 _ zw339) (dk_89_0 (19, .putfield 16, 3) (List.mem_of_getElem? (i := 10) rfl)),
  List.forall_mem_cons.mpr ⟨sd_oLdR_n 89 22 0 0 rfl (dk_89_0 (22, .aload_n 0, 1) (List.mem_of_getElem? (i := 11) rfl)),
  List.forall_mem_cons.mpr ⟨sd_iconst 89 23 1 ⟨by decide, by decide⟩ (dk_89_0 (23, .iconst 1, 1) (List.mem_of_getElem? (i := 12) rfl)),
  List.forall_mem_cons.mpr ⟨sd_iconst 89 24 0 ⟨by decide, by decide⟩ (dk_89_0 (24, .iconst 0, 1) (List.mem_of_getElem? (i := 13) rfl)),
  List.forall_mem_cons.mpr ⟨sd_new3 89 25 20 (iw_89 _ zw340) (dk_89_0 (25, .multianewarray 20 2, 4) (List.mem_of_getElem? (i := 14) rfl)),
  List.forall_mem_cons.mpr ⟨sd_oPutR 89 29 7 5 22 RX6 TX6 8 rfl ⟨by decide, by decide⟩ rfl (by decide) rfl (fun w h => iw_89 w (uz_6 w h)) rfl tyX6 tyX6_ok nmX6 (Or.inr ⟨_, rfl⟩) rfl (iw_89 _ zw341) (dk_89_0 (29, .putfield 22, 3) (List.mem_of_getElem? (i := 15) rfl)),
  List.forall_mem_cons.mpr ⟨sd_oLdR_n 89 32 0 0 rfl (dk_89_0 (32, .aload_n 0, 1) (List.mem_of_getElem? (i := 16) rfl)),
  List.forall_mem_cons.mpr ⟨sd_iconst 89 33 0 ⟨by decide, by decide⟩ (dk_89_0 (33, .iconst 0, 1) (List.mem_of_getElem? (i := 17) rfl)),
  List.forall_mem_cons.mpr ⟨sd_newR 89 34 14 25 "[I" (Or.inr (Or.inl ⟨rfl, rfl⟩)) (iw_89 _ zw342) (dk_89_0 (34, .anewarray 25, 3) (List.mem_of_getElem? (i := 18) rfl)),
  List.forall_mem_cons.mpr ⟨sd_oPutR 89 37 7 6 26 RX6 TX6 8 rfl ⟨by decide, by decide⟩ rfl (by decide) rfl (fun w h => iw_89 w (uz_6 w h)) rfl tyX6 tyX6_ok nmX6 (Or.inr ⟨_, rfl⟩) rfl (iw_89 _ zw343) (dk_89_0 (37, .putfield 26, 3) (List.mem_of_getElem? (i := 19) rfl)),
  List.forall_mem_cons.mpr ⟨sd_oLdR_n 89 40 0 0 rfl (dk_89_0 (40, .aload_n 0, 1) (List.mem_of_getElem? (i := 20) rfl)),
  List.forall_mem_cons.mpr ⟨sd_iconst 89 41 0 ⟨by decide, by decide⟩ (dk_89_0 (41, .iconst 0, 1) (List.mem_of_getElem? (i := 21) rfl)),
  List.forall_mem_cons.mpr ⟨sd_newR 89 42 14 25 "[I" (Or.inr (Or.inl ⟨rfl, rfl⟩)) (iw_89 _ zw342) (dk_89_0 (42, .anewarray 25, 3) (List.mem_of_getElem? (i := 22) rfl)),
  List.forall_mem_cons.mpr ⟨sd_oPutR 89 45 7 7 30 RX6 TX6 8 rfl ⟨by decide, by decide⟩ rfl (by decide) rfl (fun w h => iw_89 w (uz_6 w h)) rfl tyX6 tyX6_ok nmX6 (Or.inr ⟨_, rfl⟩) rfl (iw_89 _ zw344) (dk_89_0 (45, .putfield 30, 3) (List.mem_of_getElem? (i := 23) rfl)),
  List.forall_mem_cons.mpr ⟨sd_oLdR_n 89 48 0 0 rfl (dk_89_0 (48, .aload_n 0, 1) (List.mem_of_getElem? (i := 24) rfl)),
  List.forall_mem_cons.mpr ⟨sd_oLdR_n 89 49 1 1 rfl (dk_89_0 (49, .aload_n 1, 1) (List.mem_of_getElem? (i := 25) rfl)),
  List.forall_mem_cons.mpr ⟨sd_oPutRF 89 50 7 1 33 RX6 TX6 8 rfl ⟨by decide, by decide⟩ rfl (by decide) rfl (fun w h => iw_89 w (uz_6 w h)) rfl tyX6 tyX6_ok nmX6 (Or.inr ⟨_, rfl⟩) rfl rfl rfl (iw_89 _ zw345) (dk_89_0 (50, .putfield 33, 3) (List.mem_of_getElem? (i := 26) rfl)),
  List.forall_mem_cons.mpr ⟨sd_oLdR_n 89 53 0 0 rfl (dk_89_0 (53, .aload_n 0, 1) (List.mem_of_getElem? (i := 27) rfl)),
  List.forall_mem_cons.mpr ⟨sd_oLdI_n 89 54 2 2 rfl (dk_89_0 (54, .iload_n 2, 1) (List.mem_of_getElem? (i := 28) rfl)),
  List.forall_mem_cons.mpr ⟨sd_oPutI 89 55 7 2 36 RX6 TX6 8 rfl ⟨by decide, by decide⟩ rfl (by decide) rfl (fun w h => iw_89 w (uz_6 w h)) rfl tyX6 tyX6_ok nmX6 rfl rfl (iw_89 _ zw346) (dk_89_0 (55, .putfield 36, 3) (List.mem_of_getElem? (i := 29) rfl)),
  List.forall_mem_cons.mpr ⟨sd_vret 89 58 rfl (dk_89_0 (58, .return_, 1) (List.mem_of_getElem? (i := 30) rfl)),
  fun _ h => nomatch h⟩⟩⟩⟩⟩⟩⟩⟩⟩⟩⟩⟩⟩⟩⟩⟩⟩⟩⟩⟩⟩⟩⟩⟩⟩⟩⟩⟩⟩⟩⟩
def tb_89 : List (List (Nat × Op1)) := [tb_89_0]
theorem sm_89 : ∀ t ∈ tb_89, ∀ q ∈ t, SM GwP MdP D A l 89 q.1 q.2 := List.forall_mem_cons.mpr ⟨sm_89_0, fun _ h => nomatch h⟩
-- 90: MarginaliaLaw$Page.draw(I)I
def dl_90_0 : List (Nat × Instr × Nat) := [(0, .aload_n 0, 1), (1, .getfield 33, 3), (4, .aload_n 0, 1), (5, .getfield 36, 3), (8, .bipush 24, 2), (10, .irem, 1), (11, .invokestatic 40, 3), (14, .aload_n 0, 1), (15, .getfield 36, 3), (18, .bipush 24, 2), (20, .idiv, 1), (21, .bipush 8, 2), (23, .irem, 1), (24, .ishr, 1), (25, .sipush 149, 3), (28, .aload_n 0, 1), (29, .getfield 36, 3), (32, .imul, 1), (33, .iadd, 1), (34, .iload_n 1, 1), (35, .invokestatic 46, 3), (38, .istore_n 2, 1), (39, .aload_n 0, 1), (40, .dup, 1), (41, .getfield 36, 3), (44, .iconst 1, 1), (45, .iadd, 1), (46, .putfield 36, 3), (49, .iload_n 2, 1), (50, .ireturn, 1)]
theorem dk_90_0 : ∀ q ∈ dl_90_0, decode (mCod (MdP 90)) q.1 = .ok q.2 := by
  rw [show mCod (MdP 90) = cX6_draw from rfl]
  decide +kernel
def tb_90_0 : List (Nat × Op1) := [(0, oLdR 0 1), (1, oGetR 7 1), (4, oLdR 0 1), (5, oGetI 7 2), (8, oCI 24 2), (10, oRem), (11, oCallS 117 2 2 []), (14, oLdR 0 1), (15, oGetI 7 2), (18, oCI 24 2), (20, oDiv), (21, oCI 8 2), (23, oRem), (24, oHav), (25, oCI 149 3), (28, oLdR 0 1), (29, oGetI 7 2), (32, oHav), (33, oHav), (34, oLdI 1 1), (35, oCallS 116 2 2 []), (38, oStI 2 1), (39, oLdR 0 1), (40, oDup), (41, oGetI 7 2), (44, oCI 1 1), (45, oAdd), (46, oPutI 7 2), (49, oLdI 2 1), (50, oRetI)]
theorem sm_90_0 : ∀ q ∈ tb_90_0, SM GwP MdP D A l 90 q.1 q.2 :=
  List.forall_mem_cons.mpr ⟨sd_oLdR_n 90 0 0 0 rfl (dk_90_0 (0, .aload_n 0, 1) (List.mem_of_getElem? (i := 0) rfl)),
  List.forall_mem_cons.mpr ⟨sd_oGetR 90 1 7 1 33 RX6 TX6 8 rfl ⟨by decide, by decide⟩ rfl (by decide) rfl (fun w h => iw_90 w (uz_6 w h)) rfl (iw_90 _ zw345) (dk_90_0 (1, .getfield 33, 3) (List.mem_of_getElem? (i := 1) rfl)),
  List.forall_mem_cons.mpr ⟨sd_oLdR_n 90 4 0 0 rfl (dk_90_0 (4, .aload_n 0, 1) (List.mem_of_getElem? (i := 2) rfl)),
  List.forall_mem_cons.mpr ⟨sd_oGetI 90 5 7 2 36 RX6 TX6 8 rfl ⟨by decide, by decide⟩ rfl (by decide) rfl (fun w h => iw_90 w (uz_6 w h)) rfl (iw_90 _ zw346) (dk_90_0 (5, .getfield 36, 3) (List.mem_of_getElem? (i := 3) rfl)),
  List.forall_mem_cons.mpr ⟨sd_bipush 90 8 24 ⟨by decide, by decide⟩ (by decide) (dk_90_0 (8, .bipush 24, 2) (List.mem_of_getElem? (i := 4) rfl)),
  List.forall_mem_cons.mpr ⟨sd_irem 90 10 (dk_90_0 (10, .irem, 1) (List.mem_of_getElem? (i := 5) rfl)),
  List.forall_mem_cons.mpr ⟨sd_callSN 90 11 117 2 2 40 [] (gdI hws_90 hws_117 zw347) "MarginaliaLaw" (List.mem_of_getElem? (i := 1) rfl) (iw_90 _ zw348) (iw_90 _ zw349) hws_117 rfl (by decide +kernel) rfl rfl ⟨by decide +kernel, by decide +kernel, by decide +kernel⟩ ⟨by decide, by decide⟩ (catch_nil rfl) (dk_90_0 (11, .invokestatic 40, 3) (List.mem_of_getElem? (i := 6) rfl)),
  List.forall_mem_cons.mpr ⟨sd_oLdR_n 90 14 0 0 rfl (dk_90_0 (14, .aload_n 0, 1) (List.mem_of_getElem? (i := 7) rfl)),
  List.forall_mem_cons.mpr ⟨sd_oGetI 90 15 7 2 36 RX6 TX6 8 rfl ⟨by decide, by decide⟩ rfl (by decide) rfl (fun w h => iw_90 w (uz_6 w h)) rfl (iw_90 _ zw346) (dk_90_0 (15, .getfield 36, 3) (List.mem_of_getElem? (i := 8) rfl)),
  List.forall_mem_cons.mpr ⟨sd_bipush 90 18 24 ⟨by decide, by decide⟩ (by decide) (dk_90_0 (18, .bipush 24, 2) (List.mem_of_getElem? (i := 9) rfl)),
  List.forall_mem_cons.mpr ⟨sd_idiv 90 20 (dk_90_0 (20, .idiv, 1) (List.mem_of_getElem? (i := 10) rfl)),
  List.forall_mem_cons.mpr ⟨sd_bipush 90 21 8 ⟨by decide, by decide⟩ (by decide) (dk_90_0 (21, .bipush 8, 2) (List.mem_of_getElem? (i := 11) rfl)),
  List.forall_mem_cons.mpr ⟨sd_irem 90 23 (dk_90_0 (23, .irem, 1) (List.mem_of_getElem? (i := 12) rfl)),
  List.forall_mem_cons.mpr ⟨sd_hshr 90 24 (dk_90_0 (24, .ishr, 1) (List.mem_of_getElem? (i := 13) rfl)),
  List.forall_mem_cons.mpr ⟨sd_sipush 90 25 149 ⟨by decide, by decide⟩ (by decide) (dk_90_0 (25, .sipush 149, 3) (List.mem_of_getElem? (i := 14) rfl)),
  List.forall_mem_cons.mpr ⟨sd_oLdR_n 90 28 0 0 rfl (dk_90_0 (28, .aload_n 0, 1) (List.mem_of_getElem? (i := 15) rfl)),
  List.forall_mem_cons.mpr ⟨sd_oGetI 90 29 7 2 36 RX6 TX6 8 rfl ⟨by decide, by decide⟩ rfl (by decide) rfl (fun w h => iw_90 w (uz_6 w h)) rfl (iw_90 _ zw346) (dk_90_0 (29, .getfield 36, 3) (List.mem_of_getElem? (i := 16) rfl)),
  List.forall_mem_cons.mpr ⟨sd_hmul 90 32 (dk_90_0 (32, .imul, 1) (List.mem_of_getElem? (i := 17) rfl)),
  List.forall_mem_cons.mpr ⟨sd_hadd 90 33 (dk_90_0 (33, .iadd, 1) (List.mem_of_getElem? (i := 18) rfl)),
  List.forall_mem_cons.mpr ⟨sd_oLdI_n 90 34 1 1 rfl (dk_90_0 (34, .iload_n 1, 1) (List.mem_of_getElem? (i := 19) rfl)),
  List.forall_mem_cons.mpr ⟨sd_callSN 90 35 116 2 2 46 [] (gdI hws_90 hws_116 zw350) "MarginaliaLaw" (List.mem_of_getElem? (i := 2) rfl) (iw_90 _ zw348) (iw_90 _ zw351) hws_116 rfl (by decide +kernel) rfl rfl ⟨by decide +kernel, by decide +kernel, by decide +kernel⟩ ⟨by decide, by decide⟩ (catch_nil rfl) (dk_90_0 (35, .invokestatic 46, 3) (List.mem_of_getElem? (i := 20) rfl)),
  List.forall_mem_cons.mpr ⟨sd_oStI_n 90 38 2 2 rfl (by decide) (dk_90_0 (38, .istore_n 2, 1) (List.mem_of_getElem? (i := 21) rfl)),
  List.forall_mem_cons.mpr ⟨sd_oLdR_n 90 39 0 0 rfl (dk_90_0 (39, .aload_n 0, 1) (List.mem_of_getElem? (i := 22) rfl)),
  List.forall_mem_cons.mpr ⟨sd_dup 90 40 (dk_90_0 (40, .dup, 1) (List.mem_of_getElem? (i := 23) rfl)),
  List.forall_mem_cons.mpr ⟨sd_oGetI 90 41 7 2 36 RX6 TX6 8 rfl ⟨by decide, by decide⟩ rfl (by decide) rfl (fun w h => iw_90 w (uz_6 w h)) rfl (iw_90 _ zw346) (dk_90_0 (41, .getfield 36, 3) (List.mem_of_getElem? (i := 24) rfl)),
  List.forall_mem_cons.mpr ⟨sd_iconst 90 44 1 ⟨by decide, by decide⟩ (dk_90_0 (44, .iconst 1, 1) (List.mem_of_getElem? (i := 25) rfl)),
  List.forall_mem_cons.mpr ⟨sd_iadd 90 45 (dk_90_0 (45, .iadd, 1) (List.mem_of_getElem? (i := 26) rfl)),
  List.forall_mem_cons.mpr ⟨sd_oPutI 90 46 7 2 36 RX6 TX6 8 rfl ⟨by decide, by decide⟩ rfl (by decide) rfl (fun w h => iw_90 w (uz_6 w h)) rfl tyX6 tyX6_ok nmX6 rfl rfl (iw_90 _ zw346) (dk_90_0 (46, .putfield 36, 3) (List.mem_of_getElem? (i := 27) rfl)),
  List.forall_mem_cons.mpr ⟨sd_oLdI_n 90 49 2 2 rfl (dk_90_0 (49, .iload_n 2, 1) (List.mem_of_getElem? (i := 28) rfl)),
  List.forall_mem_cons.mpr ⟨sd_iret 90 50 rfl (dk_90_0 (50, .ireturn, 1) (List.mem_of_getElem? (i := 29) rfl)),
  fun _ h => nomatch h⟩⟩⟩⟩⟩⟩⟩⟩⟩⟩⟩⟩⟩⟩⟩⟩⟩⟩⟩⟩⟩⟩⟩⟩⟩⟩⟩⟩⟩⟩
def tb_90 : List (List (Nat × Op1)) := [tb_90_0]
theorem sm_90 : ∀ t ∈ tb_90, ∀ q ∈ t, SM GwP MdP D A l 90 q.1 q.2 := List.forall_mem_cons.mpr ⟨sm_90_0, fun _ h => nomatch h⟩
-- 91: MarginaliaLaw$Page.with([[II[I)[[I
def dl_91_0 : List (Nat × Instr × Nat) := [(0, .aload_n 0, 1), (1, .arraylength, 1), (2, .iconst 1, 1), (3, .iadd, 1), (4, .anewarray 25, 3), (7, .astore_n 3, 1), (8, .aload_n 0, 1), (9, .iconst 0, 1), (10, .aload_n 3, 1), (11, .iconst 0, 1), (12, .iload_n 1, 1), (13, .invokestatic 50, 3), (16, .aload_n 3, 1), (17, .iload_n 1, 1), (18, .aload_n 2, 1), (19, .aastore, 1), (20, .aload_n 0, 1), (21, .iload_n 1, 1), (22, .aload_n 3, 1), (23, .iload_n 1, 1), (24, .iconst 1, 1), (25, .iadd, 1), (26, .aload_n 0, 1), (27, .arraylength, 1), (28, .iload_n 1, 1), (29, .isub, 1), (30, .invokestatic 50, 3), (33, .aload_n 3, 1), (34, .areturn, 1)]
theorem dk_91_0 : ∀ q ∈ dl_91_0, decode (mCod (MdP 91)) q.1 = .ok q.2 := by
  rw [show mCod (MdP 91) = cX6_with from rfl]
  decide +kernel
def tb_91_0 : List (Nat × Op1) := [(0, oLdR 0 1), (1, oALen 14), (2, oCI 1 1), (3, oAdd), (4, oNewA 14 3), (7, oStR 3 1), (8, oLdR 0 1), (9, oCI 0 1), (10, oLdR 3 1), (11, oCI 0 1), (12, oLdI 1 1), (13, oCpyR 14 10), (16, oLdR 3 1), (17, oLdI 1 1), (18, oLdR 2 1), (19, oAStR 14 10), (20, oLdR 0 1), (21, oLdI 1 1), (22, oLdR 3 1), (23, oLdI 1 1), (24, oCI 1 1), (25, oAdd), (26, oLdR 0 1), (27, oALen 14), (28, oLdI 1 1), (29, oSub), (30, oCpyR 14 10), (33, oLdR 3 1), (34, oRetR)]
theorem sm_91_0 : ∀ q ∈ tb_91_0, SM GwP MdP D A l 91 q.1 q.2 :=
  List.forall_mem_cons.mpr ⟨sd_oLdR_n 91 0 0 0 rfl (dk_91_0 (0, .aload_n 0, 1) (List.mem_of_getElem? (i := 0) rfl)),
  List.forall_mem_cons.mpr ⟨sd_alen 91 1 14 ⟨by decide, by decide⟩ (dk_91_0 (1, .arraylength, 1) (List.mem_of_getElem? (i := 1) rfl)),
  List.forall_mem_cons.mpr ⟨sd_iconst 91 2 1 ⟨by decide, by decide⟩ (dk_91_0 (2, .iconst 1, 1) (List.mem_of_getElem? (i := 2) rfl)),
  List.forall_mem_cons.mpr ⟨sd_iadd 91 3 (dk_91_0 (3, .iadd, 1) (List.mem_of_getElem? (i := 3) rfl)),
  List.forall_mem_cons.mpr ⟨sd_newR 91 4 14 25 "[I" (Or.inr (Or.inl ⟨rfl, rfl⟩)) (iw_91 _ zw342) (dk_91_0 (4, .anewarray 25, 3) (List.mem_of_getElem? (i := 4) rfl)),
  List.forall_mem_cons.mpr ⟨sd_oStR_n 91 7 3 3 rfl (by decide) (dk_91_0 (7, .astore_n 3, 1) (List.mem_of_getElem? (i := 5) rfl)),
  List.forall_mem_cons.mpr ⟨sd_oLdR_n 91 8 0 0 rfl (dk_91_0 (8, .aload_n 0, 1) (List.mem_of_getElem? (i := 6) rfl)),
  List.forall_mem_cons.mpr ⟨sd_iconst 91 9 0 ⟨by decide, by decide⟩ (dk_91_0 (9, .iconst 0, 1) (List.mem_of_getElem? (i := 7) rfl)),
  List.forall_mem_cons.mpr ⟨sd_oLdR_n 91 10 3 3 rfl (dk_91_0 (10, .aload_n 3, 1) (List.mem_of_getElem? (i := 8) rfl)),
  List.forall_mem_cons.mpr ⟨sd_iconst 91 11 0 ⟨by decide, by decide⟩ (dk_91_0 (11, .iconst 0, 1) (List.mem_of_getElem? (i := 9) rfl)),
  List.forall_mem_cons.mpr ⟨sd_oLdI_n 91 12 1 1 rfl (dk_91_0 (12, .iload_n 1, 1) (List.mem_of_getElem? (i := 10) rfl)),
  List.forall_mem_cons.mpr ⟨sd_cpyA 91 13 50 (iw_91 _ zw352) (iw_91 _ zw70) (iw_91 _ zw71) (iw_91 _ zw72) (by decide) (by decide) (dk_91_0 (13, .invokestatic 50, 3) (List.mem_of_getElem? (i := 11) rfl)),
  List.forall_mem_cons.mpr ⟨sd_oLdR_n 91 16 3 3 rfl (dk_91_0 (16, .aload_n 3, 1) (List.mem_of_getElem? (i := 12) rfl)),
  List.forall_mem_cons.mpr ⟨sd_oLdI_n 91 17 1 1 rfl (dk_91_0 (17, .iload_n 1, 1) (List.mem_of_getElem? (i := 13) rfl)),
  List.forall_mem_cons.mpr ⟨sd_oLdR_n 91 18 2 2 rfl (dk_91_0 (18, .aload_n 2, 1) (List.mem_of_getElem? (i := 14) rfl)),
  List.forall_mem_cons.mpr ⟨sd_aastA 91 19 (dk_91_0 (19, .aastore, 1) (List.mem_of_getElem? (i := 15) rfl)),
  List.forall_mem_cons.mpr ⟨sd_oLdR_n 91 20 0 0 rfl (dk_91_0 (20, .aload_n 0, 1) (List.mem_of_getElem? (i := 16) rfl)),
  List.forall_mem_cons.mpr ⟨sd_oLdI_n 91 21 1 1 rfl (dk_91_0 (21, .iload_n 1, 1) (List.mem_of_getElem? (i := 17) rfl)),
  List.forall_mem_cons.mpr ⟨sd_oLdR_n 91 22 3 3 rfl (dk_91_0 (22, .aload_n 3, 1) (List.mem_of_getElem? (i := 18) rfl)),
  List.forall_mem_cons.mpr ⟨sd_oLdI_n 91 23 1 1 rfl (dk_91_0 (23, .iload_n 1, 1) (List.mem_of_getElem? (i := 19) rfl)),
  List.forall_mem_cons.mpr ⟨sd_iconst 91 24 1 ⟨by decide, by decide⟩ (dk_91_0 (24, .iconst 1, 1) (List.mem_of_getElem? (i := 20) rfl)),
  List.forall_mem_cons.mpr ⟨sd_iadd 91 25 (dk_91_0 (25, .iadd, 1) (List.mem_of_getElem? (i := 21) rfl)),
  List.forall_mem_cons.mpr ⟨sd_oLdR_n 91 26 0 0 rfl (dk_91_0 (26, .aload_n 0, 1) (List.mem_of_getElem? (i := 22) rfl)),
  List.forall_mem_cons.mpr ⟨sd_alen 91 27 14 ⟨by decide, by decide⟩ (dk_91_0 (27, .arraylength, 1) (List.mem_of_getElem? (i := 23) rfl)),
  List.forall_mem_cons.mpr ⟨sd_oLdI_n 91 28 1 1 rfl (dk_91_0 (28, .iload_n 1, 1) (List.mem_of_getElem? (i := 24) rfl)),
  List.forall_mem_cons.mpr ⟨sd_isub 91 29 (dk_91_0 (29, .isub, 1) (List.mem_of_getElem? (i := 25) rfl)),
  List.forall_mem_cons.mpr ⟨sd_cpyA 91 30 50 (iw_91 _ zw352) (iw_91 _ zw70) (iw_91 _ zw71) (iw_91 _ zw72) (by decide) (by decide) (dk_91_0 (30, .invokestatic 50, 3) (List.mem_of_getElem? (i := 26) rfl)),
  List.forall_mem_cons.mpr ⟨sd_oLdR_n 91 33 3 3 rfl (dk_91_0 (33, .aload_n 3, 1) (List.mem_of_getElem? (i := 27) rfl)),
  List.forall_mem_cons.mpr ⟨sd_aret 91 34 rfl (Or.inr ⟨_, rfl⟩) (dk_91_0 (34, .areturn, 1) (List.mem_of_getElem? (i := 28) rfl)),
  fun _ h => nomatch h⟩⟩⟩⟩⟩⟩⟩⟩⟩⟩⟩⟩⟩⟩⟩⟩⟩⟩⟩⟩⟩⟩⟩⟩⟩⟩⟩⟩⟩
def tb_91 : List (List (Nat × Op1)) := [tb_91_0]
theorem sm_91 : ∀ t ∈ tb_91, ∀ q ∈ t, SM GwP MdP D A l 91 q.1 q.2 := List.forall_mem_cons.mpr ⟨sm_91_0, fun _ h => nomatch h⟩
-- 92: MarginaliaLaw$Page.text()[[I
def dl_92_0 : List (Nat × Instr × Nat) := [(0, .aload_n 0, 1), (1, .getfield 22, 3), (4, .aload_n 0, 1), (5, .getfield 22, 3), (8, .arraylength, 1), (9, .iconst 1, 1), (10, .isub, 1), (11, .aaload, 1), (12, .areturn, 1)]
theorem dk_92_0 : ∀ q ∈ dl_92_0, decode (mCod (MdP 92)) q.1 = .ok q.2 := by
  rw [show mCod (MdP 92) = cX6_text from rfl]
  decide +kernel
def tb_92_0 : List (Nat × Op1) := [(0, oLdR 0 1), (1, oGetR 7 5), (4, oLdR 0 1), (5, oGetR 7 5), (8, oALen 16), (9, oCI 1 1), (10, oSub), (11, oALdR 16), (12, oRetR)]
theorem sm_92_0 : ∀ q ∈ tb_92_0, SM GwP MdP D A l 92 q.1 q.2 :=
  List.forall_mem_cons.mpr ⟨sd_oLdR_n 92 0 0 0 rfl (dk_92_0 (0, .aload_n 0, 1) (List.mem_of_getElem? (i := 0) rfl)),
  List.forall_mem_cons.mpr ⟨sd_oGetR 92 1 7 5 22 RX6 TX6 8 rfl ⟨by decide, by decide⟩ rfl (by decide) rfl (fun w h => iw_92 w (uz_6 w h)) rfl (iw_92 _ zw341) (dk_92_0 (1, .getfield 22, 3) (List.mem_of_getElem? (i := 1) rfl)),
  List.forall_mem_cons.mpr ⟨sd_oLdR_n 92 4 0 0 rfl (dk_92_0 (4, .aload_n 0, 1) (List.mem_of_getElem? (i := 2) rfl)),
  List.forall_mem_cons.mpr ⟨sd_oGetR 92 5 7 5 22 RX6 TX6 8 rfl ⟨by decide, by decide⟩ rfl (by decide) rfl (fun w h => iw_92 w (uz_6 w h)) rfl (iw_92 _ zw341) (dk_92_0 (5, .getfield 22, 3) (List.mem_of_getElem? (i := 3) rfl)),
  List.forall_mem_cons.mpr ⟨sd_alen 92 8 16 ⟨by decide, by decide⟩ (dk_92_0 (8, .arraylength, 1) (List.mem_of_getElem? (i := 4) rfl)),
  List.forall_mem_cons.mpr ⟨sd_iconst 92 9 1 ⟨by decide, by decide⟩ (dk_92_0 (9, .iconst 1, 1) (List.mem_of_getElem? (i := 5) rfl)),
  List.forall_mem_cons.mpr ⟨sd_isub 92 10 (dk_92_0 (10, .isub, 1) (List.mem_of_getElem? (i := 6) rfl)),
  List.forall_mem_cons.mpr ⟨sd_aaldB 92 11 (dk_92_0 (11, .aaload, 1) (List.mem_of_getElem? (i := 7) rfl)),
  List.forall_mem_cons.mpr ⟨sd_aret 92 12 rfl (Or.inr ⟨_, rfl⟩) (dk_92_0 (12, .areturn, 1) (List.mem_of_getElem? (i := 8) rfl)),
  fun _ h => nomatch h⟩⟩⟩⟩⟩⟩⟩⟩⟩
def tb_92 : List (List (Nat × Op1)) := [tb_92_0]
theorem sm_92 : ∀ t ∈ tb_92, ∀ q ∈ t, SM GwP MdP D A l 92 q.1 q.2 := List.forall_mem_cons.mpr ⟨sm_92_0, fun _ h => nomatch h⟩
-- 93: MarginaliaLaw$Page.edited([[I)V
def dl_93_0 : List (Nat × Instr × Nat) := [(0, .aload_n 0, 1), (1, .getfield 22, 3), (4, .arraylength, 1), (5, .iconst 1, 1), (6, .iadd, 1), (7, .anewarray 56, 3), (10, .astore_n 2, 1), (11, .aload_n 0, 1), (12, .getfield 22, 3), (15, .iconst 0, 1), (16, .aload_n 2, 1), (17, .iconst 0, 1), (18, .aload_n 0, 1), (19, .getfield 22, 3), (22, .arraylength, 1), (23, .invokestatic 50, 3), (26, .aload_n 2, 1), (27, .aload_n 0, 1), (28, .getfield 22, 3), (31, .arraylength, 1), (32, .aload_n 1, 1), (33, .aastore, 1), (34, .aload_n 0, 1), (35, .aload_n 2, 1), (36, .putfield 22, 3), (39, .return_, 1)]
theorem dk_93_0 : ∀ q ∈ dl_93_0, decode (mCod (MdP 93)) q.1 = .ok q.2 := by
  rw [show mCod (MdP 93) = cX6_edited from rfl]
  decide +kernel
def tb_93_0 : List (Nat × Op1) := [(0, oLdR 0 1), (1, oGetR 7 5), (4, oALen 16), (5, oCI 1 1), (6, oAdd), (7, oNewA 16 3), (10, oStR 2 1), (11, oLdR 0 1), (12, oGetR 7 5), (15, oCI 0 1), (16, oLdR 2 1), (17, oCI 0 1), (18, oLdR 0 1), (19, oGetR 7 5), (22, oALen 16), (23, oCpyR 16 14), (26, oLdR 2 1), (27, oLdR 0 1), (28, oGetR 7 5), (31, oALen 16), (32, oLdR 1 1), (33, oAStR 16 14), (34, oLdR 0 1), (35, oLdR 2 1), (36, oPutR 7 5), (39, oRetV)]
theorem sm_93_0 : ∀ q ∈ tb_93_0, SM GwP MdP D A l 93 q.1 q.2 :=
  List.forall_mem_cons.mpr ⟨sd_oLdR_n 93 0 0 0 rfl (dk_93_0 (0, .aload_n 0, 1) (List.mem_of_getElem? (i := 0) rfl)),
  List.forall_mem_cons.mpr ⟨sd_oGetR 93 1 7 5 22 RX6 TX6 8 rfl ⟨by decide, by decide⟩ rfl (by decide) rfl (fun w h => iw_93 w (uz_6 w h)) rfl (iw_93 _ zw341) (dk_93_0 (1, .getfield 22, 3) (List.mem_of_getElem? (i := 1) rfl)),
  List.forall_mem_cons.mpr ⟨sd_alen 93 4 16 ⟨by decide, by decide⟩ (dk_93_0 (4, .arraylength, 1) (List.mem_of_getElem? (i := 2) rfl)),
  List.forall_mem_cons.mpr ⟨sd_iconst 93 5 1 ⟨by decide, by decide⟩ (dk_93_0 (5, .iconst 1, 1) (List.mem_of_getElem? (i := 3) rfl)),
  List.forall_mem_cons.mpr ⟨sd_iadd 93 6 (dk_93_0 (6, .iadd, 1) (List.mem_of_getElem? (i := 4) rfl)),
  List.forall_mem_cons.mpr ⟨sd_newR 93 7 16 56 "[[I" (Or.inr (Or.inr ⟨rfl, rfl⟩)) (iw_93 _ zw353) (dk_93_0 (7, .anewarray 56, 3) (List.mem_of_getElem? (i := 5) rfl)),
  List.forall_mem_cons.mpr ⟨sd_oStR_n 93 10 2 2 rfl (by decide) (dk_93_0 (10, .astore_n 2, 1) (List.mem_of_getElem? (i := 6) rfl)),
  List.forall_mem_cons.mpr ⟨sd_oLdR_n 93 11 0 0 rfl (dk_93_0 (11, .aload_n 0, 1) (List.mem_of_getElem? (i := 7) rfl)),
  List.forall_mem_cons.mpr ⟨sd_oGetR 93 12 7 5 22 RX6 TX6 8 rfl ⟨by decide, by decide⟩ rfl (by decide) rfl (fun w h => iw_93 w (uz_6 w h)) rfl (iw_93 _ zw341) (dk_93_0 (12, .getfield 22, 3) (List.mem_of_getElem? (i := 8) rfl)),
  List.forall_mem_cons.mpr ⟨sd_iconst 93 15 0 ⟨by decide, by decide⟩ (dk_93_0 (15, .iconst 0, 1) (List.mem_of_getElem? (i := 9) rfl)),
  List.forall_mem_cons.mpr ⟨sd_oLdR_n 93 16 2 2 rfl (dk_93_0 (16, .aload_n 2, 1) (List.mem_of_getElem? (i := 10) rfl)),
  List.forall_mem_cons.mpr ⟨sd_iconst 93 17 0 ⟨by decide, by decide⟩ (dk_93_0 (17, .iconst 0, 1) (List.mem_of_getElem? (i := 11) rfl)),
  List.forall_mem_cons.mpr ⟨sd_oLdR_n 93 18 0 0 rfl (dk_93_0 (18, .aload_n 0, 1) (List.mem_of_getElem? (i := 12) rfl)),
  List.forall_mem_cons.mpr ⟨sd_oGetR 93 19 7 5 22 RX6 TX6 8 rfl ⟨by decide, by decide⟩ rfl (by decide) rfl (fun w h => iw_93 w (uz_6 w h)) rfl (iw_93 _ zw341) (dk_93_0 (19, .getfield 22, 3) (List.mem_of_getElem? (i := 13) rfl)),
  List.forall_mem_cons.mpr ⟨sd_alen 93 22 16 ⟨by decide, by decide⟩ (dk_93_0 (22, .arraylength, 1) (List.mem_of_getElem? (i := 14) rfl)),
  List.forall_mem_cons.mpr ⟨sd_cpyB 93 23 50 (iw_93 _ zw352) (iw_93 _ zw70) (iw_93 _ zw71) (iw_93 _ zw72) (by decide) (by decide) (dk_93_0 (23, .invokestatic 50, 3) (List.mem_of_getElem? (i := 15) rfl)),
  List.forall_mem_cons.mpr ⟨sd_oLdR_n 93 26 2 2 rfl (dk_93_0 (26, .aload_n 2, 1) (List.mem_of_getElem? (i := 16) rfl)),
  List.forall_mem_cons.mpr ⟨sd_oLdR_n 93 27 0 0 rfl (dk_93_0 (27, .aload_n 0, 1) (List.mem_of_getElem? (i := 17) rfl)),
  List.forall_mem_cons.mpr ⟨sd_oGetR 93 28 7 5 22 RX6 TX6 8 rfl ⟨by decide, by decide⟩ rfl (by decide) rfl (fun w h => iw_93 w (uz_6 w h)) rfl (iw_93 _ zw341) (dk_93_0 (28, .getfield 22, 3) (List.mem_of_getElem? (i := 18) rfl)),
  List.forall_mem_cons.mpr ⟨sd_alen 93 31 16 ⟨by decide, by decide⟩ (dk_93_0 (31, .arraylength, 1) (List.mem_of_getElem? (i := 19) rfl)),
  List.forall_mem_cons.mpr ⟨sd_oLdR_n 93 32 1 1 rfl (dk_93_0 (32, .aload_n 1, 1) (List.mem_of_getElem? (i := 20) rfl)),
  List.forall_mem_cons.mpr ⟨sd_aastB 93 33 (dk_93_0 (33, .aastore, 1) (List.mem_of_getElem? (i := 21) rfl)),
  List.forall_mem_cons.mpr ⟨sd_oLdR_n 93 34 0 0 rfl (dk_93_0 (34, .aload_n 0, 1) (List.mem_of_getElem? (i := 22) rfl)),
  List.forall_mem_cons.mpr ⟨sd_oLdR_n 93 35 2 2 rfl (dk_93_0 (35, .aload_n 2, 1) (List.mem_of_getElem? (i := 23) rfl)),
  List.forall_mem_cons.mpr ⟨sd_oPutR 93 36 7 5 22 RX6 TX6 8 rfl ⟨by decide, by decide⟩ rfl (by decide) rfl (fun w h => iw_93 w (uz_6 w h)) rfl tyX6 tyX6_ok nmX6 (Or.inr ⟨_, rfl⟩) rfl (iw_93 _ zw341) (dk_93_0 (36, .putfield 22, 3) (List.mem_of_getElem? (i := 24) rfl)),
  List.forall_mem_cons.mpr ⟨sd_vret 93 39 rfl (dk_93_0 (39, .return_, 1) (List.mem_of_getElem? (i := 25) rfl)),
  fun _ h => nomatch h⟩⟩⟩⟩⟩⟩⟩⟩⟩⟩⟩⟩⟩⟩⟩⟩⟩⟩⟩⟩⟩⟩⟩⟩⟩⟩
def tb_93 : List (List (Nat × Op1)) := [tb_93_0]
theorem sm_93 : ∀ t ∈ tb_93, ∀ q ∈ t, SM GwP MdP D A l 93 q.1 q.2 := List.forall_mem_cons.mpr ⟨sm_93_0, fun _ h => nomatch h⟩
-- 94: MarginaliaLaw$Page.addUser(I)Z
def dl_94_0 : List (Nat × Instr × Nat) := [(0, .aload_n 0, 1), (1, .getfield 16, 3), (4, .arraylength, 1), (5, .bipush 6, 2), (7, .if_icmp .ne 5, 3), (10, .iconst 1, 1), (11, .ireturn, 1), (12, .aload_n 0, 1), (13, .getfield 16, 3), (16, .arraylength, 1), (17, .iconst 1, 1), (18, .iadd, 1), (19, .newarray .int, 2), (21, .astore_n 2, 1), (22, .aload_n 0, 1), (23, .getfield 16, 3), (26, .iconst 0, 1), (27, .aload_n 2, 1), (28, .iconst 0, 1), (29, .aload_n 0, 1), (30, .getfield 16, 3), (33, .arraylength, 1), (34, .invokestatic 50, 3), (37, .aload_n 2, 1), (38, .aload_n 0, 1), (39, .getfield 16, 3), (42, .arraylength, 1), (43, .iload_n 1, 1), (44, .iastore, 1), (45, .aload_n 0, 1), (46, .aload_n 2, 1), (47, .putfield 16, 3), (50, .aload_n 0, 1), (51, .getfield 10, 3), (54, .iload_n 1, 1), (55, .invokevirtual 57, 3), (58, .aload_n 0, 1), (59, .getfield 16, 3), (62, .arraylength, 1), (63, .iconst 1, 1)]
theorem dk_94_0 : ∀ q ∈ dl_94_0, decode (mCod (MdP 94)) q.1 = .ok q.2 := by
  rw [show mCod (MdP 94) = cX6_addUser from rfl]
  decide +kernel
def dl_94_1 : List (Nat × Instr × Nat) := [(64, .isub, 1), (65, .if_icmp .ne 7, 3), (68, .iconst 1, 1), (69, .goto 4, 3), (72, .iconst 0, 1), (73, .ireturn, 1)]
theorem dk_94_1 : ∀ q ∈ dl_94_1, decode (mCod (MdP 94)) q.1 = .ok q.2 := by
  rw [show mCod (MdP 94) = cX6_addUser from rfl]
  decide +kernel
def tb_94_0 : List (Nat × Op1) := [(0, oLdR 0 1), (1, oGetR 7 3), (4, oALen 10), (5, oCI 6 2), (7, oCne 12), (10, oCI 1 1), (11, oRetZ), (12, oLdR 0 1), (13, oGetR 7 3), (16, oALen 10), (17, oCI 1 1), (18, oAdd), (19, oNewA 10 2), (21, oStR 2 1), (22, oLdR 0 1), (23, oGetR 7 3), (26, oCI 0 1), (27, oLdR 2 1), (28, oCI 0 1), (29, oLdR 0 1), (30, oGetR 7 3), (33, oALen 10), (34, oCpy), (37, oLdR 2 1), (38, oLdR 0 1), (39, oGetR 7 3), (42, oALen 10), (43, oLdI 1 1), (44, oAStI), (45, oLdR 0 1), (46, oLdR 2 1), (47, oPutR 7 3), (50, oLdR 0 1), (51, oGetR 7 0), (54, oLdI 1 1), (55, oCallV 32 1 2 6 []), (58, oLdR 0 1), (59, oGetR 7 3), (62, oALen 10), (63, oCI 1 1)]
theorem sm_94_0 : ∀ q ∈ tb_94_0, SM GwP MdP D A l 94 q.1 q.2 :=
  List.forall_mem_cons.mpr ⟨sd_oLdR_n 94 0 0 0 rfl (dk_94_0 (0, .aload_n 0, 1) (List.mem_of_getElem? (i := 0) rfl)),
  List.forall_mem_cons.mpr ⟨sd_oGetR 94 1 7 3 16 RX6 TX6 8 rfl ⟨by decide, by decide⟩ rfl (by decide) rfl (fun w h => iw_94 w (uz_6 w h)) rfl (iw_94 _ zw339) (dk_94_0 (1, .getfield 16, 3) (List.mem_of_getElem? (i := 1) rfl)),
  List.forall_mem_cons.mpr ⟨sd_alen 94 4 10 ⟨by decide, by decide⟩ (dk_94_0 (4, .arraylength, 1) (List.mem_of_getElem? (i := 2) rfl)),
  List.forall_mem_cons.mpr ⟨sd_bipush 94 5 6 ⟨by decide, by decide⟩ (by decide) (dk_94_0 (5, .bipush 6, 2) (List.mem_of_getElem? (i := 3) rfl)),
  List.forall_mem_cons.mpr ⟨sd_icmp_ne 94 7 5 12 (by decide) (dk_94_0 (7, .if_icmp .ne 5, 3) (List.mem_of_getElem? (i := 4) rfl)),
  List.forall_mem_cons.mpr ⟨sd_iconst 94 10 1 ⟨by decide, by decide⟩ (dk_94_0 (10, .iconst 1, 1) (List.mem_of_getElem? (i := 5) rfl)),
  List.forall_mem_cons.mpr ⟨sd_zret 94 11 rfl (dk_94_0 (11, .ireturn, 1) (List.mem_of_getElem? (i := 6) rfl)),
  List.forall_mem_cons.mpr ⟨sd_oLdR_n 94 12 0 0 rfl (dk_94_0 (12, .aload_n 0, 1) (List.mem_of_getElem? (i := 7) rfl)),
  List.forall_mem_cons.mpr ⟨sd_oGetR 94 13 7 3 16 RX6 TX6 8 rfl ⟨by decide, by decide⟩ rfl (by decide) rfl (fun w h => iw_94 w (uz_6 w h)) rfl (iw_94 _ zw339) (dk_94_0 (13, .getfield 16, 3) (List.mem_of_getElem? (i := 8) rfl)),
  List.forall_mem_cons.mpr ⟨sd_alen 94 16 10 ⟨by decide, by decide⟩ (dk_94_0 (16, .arraylength, 1) (List.mem_of_getElem? (i := 9) rfl)),
  List.forall_mem_cons.mpr ⟨sd_iconst 94 17 1 ⟨by decide, by decide⟩ (dk_94_0 (17, .iconst 1, 1) (List.mem_of_getElem? (i := 10) rfl)),
  List.forall_mem_cons.mpr ⟨sd_iadd 94 18 (dk_94_0 (18, .iadd, 1) (List.mem_of_getElem? (i := 11) rfl)),
  List.forall_mem_cons.mpr ⟨sd_newA 94 19 10 .int (Or.inl ⟨rfl, rfl⟩) (iw_94 _ zw22) (dk_94_0 (19, .newarray .int, 2) (List.mem_of_getElem? (i := 12) rfl)),
  List.forall_mem_cons.mpr ⟨sd_oStR_n 94 21 2 2 rfl (by decide) (dk_94_0 (21, .astore_n 2, 1) (List.mem_of_getElem? (i := 13) rfl)),
  List.forall_mem_cons.mpr ⟨sd_oLdR_n 94 22 0 0 rfl (dk_94_0 (22, .aload_n 0, 1) (List.mem_of_getElem? (i := 14) rfl)),
  List.forall_mem_cons.mpr ⟨sd_oGetR 94 23 7 3 16 RX6 TX6 8 rfl ⟨by decide, by decide⟩ rfl (by decide) rfl (fun w h => iw_94 w (uz_6 w h)) rfl (iw_94 _ zw339) (dk_94_0 (23, .getfield 16, 3) (List.mem_of_getElem? (i := 15) rfl)),
  List.forall_mem_cons.mpr ⟨sd_iconst 94 26 0 ⟨by decide, by decide⟩ (dk_94_0 (26, .iconst 0, 1) (List.mem_of_getElem? (i := 16) rfl)),
  List.forall_mem_cons.mpr ⟨sd_oLdR_n 94 27 2 2 rfl (dk_94_0 (27, .aload_n 2, 1) (List.mem_of_getElem? (i := 17) rfl)),
  List.forall_mem_cons.mpr ⟨sd_iconst 94 28 0 ⟨by decide, by decide⟩ (dk_94_0 (28, .iconst 0, 1) (List.mem_of_getElem? (i := 18) rfl)),
  List.forall_mem_cons.mpr ⟨sd_oLdR_n 94 29 0 0 rfl (dk_94_0 (29, .aload_n 0, 1) (List.mem_of_getElem? (i := 19) rfl)),
  List.forall_mem_cons.mpr ⟨sd_oGetR 94 30 7 3 16 RX6 TX6 8 rfl ⟨by decide, by decide⟩ rfl (by decide) rfl (fun w h => iw_94 w (uz_6 w h)) rfl (iw_94 _ zw339) (dk_94_0 (30, .getfield 16, 3) (List.mem_of_getElem? (i := 20) rfl)),
  List.forall_mem_cons.mpr ⟨sd_alen 94 33 10 ⟨by decide, by decide⟩ (dk_94_0 (33, .arraylength, 1) (List.mem_of_getElem? (i := 21) rfl)),
  List.forall_mem_cons.mpr ⟨sd_cpy 94 34 50 (iw_94 _ zw352) (iw_94 _ zw70) (iw_94 _ zw71) (iw_94 _ zw72) (by decide) (by decide) (dk_94_0 (34, .invokestatic 50, 3) (List.mem_of_getElem? (i := 22) rfl)),
  List.forall_mem_cons.mpr ⟨sd_oLdR_n 94 37 2 2 rfl (dk_94_0 (37, .aload_n 2, 1) (List.mem_of_getElem? (i := 23) rfl)),
  List.forall_mem_cons.mpr ⟨sd_oLdR_n 94 38 0 0 rfl (dk_94_0 (38, .aload_n 0, 1) (List.mem_of_getElem? (i := 24) rfl)),
  List.forall_mem_cons.mpr ⟨sd_oGetR 94 39 7 3 16 RX6 TX6 8 rfl ⟨by decide, by decide⟩ rfl (by decide) rfl (fun w h => iw_94 w (uz_6 w h)) rfl (iw_94 _ zw339) (dk_94_0 (39, .getfield 16, 3) (List.mem_of_getElem? (i := 25) rfl)),
  List.forall_mem_cons.mpr ⟨sd_alen 94 42 10 ⟨by decide, by decide⟩ (dk_94_0 (42, .arraylength, 1) (List.mem_of_getElem? (i := 26) rfl)),
  List.forall_mem_cons.mpr ⟨sd_oLdI_n 94 43 1 1 rfl (dk_94_0 (43, .iload_n 1, 1) (List.mem_of_getElem? (i := 27) rfl)),
  List.forall_mem_cons.mpr ⟨sd_iast 94 44 (dk_94_0 (44, .iastore, 1) (List.mem_of_getElem? (i := 28) rfl)),
  List.forall_mem_cons.mpr ⟨sd_oLdR_n 94 45 0 0 rfl (dk_94_0 (45, .aload_n 0, 1) (List.mem_of_getElem? (i := 29) rfl)),
  List.forall_mem_cons.mpr ⟨sd_oLdR_n 94 46 2 2 rfl (dk_94_0 (46, .aload_n 2, 1) (List.mem_of_getElem? (i := 30) rfl)),
  List.forall_mem_cons.mpr ⟨sd_oPutR 94 47 7 3 16 RX6 TX6 8 rfl ⟨by decide, by decide⟩ rfl (by decide) rfl (fun w h => iw_94 w (uz_6 w h)) rfl tyX6 tyX6_ok nmX6 (Or.inr ⟨_, rfl⟩) rfl (iw_94 _ zw339) (dk_94_0 (47, .putfield 16, 3) (List.mem_of_getElem? (i := 31) rfl)),
  List.forall_mem_cons.mpr ⟨sd_oLdR_n 94 50 0 0 rfl (dk_94_0 (50, .aload_n 0, 1) (List.mem_of_getElem? (i := 32) rfl)),
  List.forall_mem_cons.mpr ⟨sd_oGetR 94 51 7 0 10 RX6 TX6 8 rfl ⟨by decide, by decide⟩ rfl (by decide) rfl (fun w h => iw_94 w (uz_6 w h)) rfl (iw_94 _ zw338) (dk_94_0 (51, .getfield 10, 3) (List.mem_of_getElem? (i := 33) rfl)),
  List.forall_mem_cons.mpr ⟨sd_oLdI_n 94 54 1 1 rfl (dk_94_0 (54, .iload_n 1, 1) (List.mem_of_getElem? (i := 34) rfl)),
  List.forall_mem_cons.mpr ⟨sd_callV 94 55 32 1 2 57 6 [] (gdV hws_94 hws_32 zw355 zw356 zw357 zw63 zw354) hws_32 rfl (by decide +kernel) rfl rfl ⟨by decide +kernel, by decide +kernel, by decide +kernel⟩ ⟨by decide, by decide⟩ (catch_nil rfl) RX5 rfl TX5 7 rfl ⟨by decide, by decide⟩ (dk_94_0 (55, .invokevirtual 57, 3) (List.mem_of_getElem? (i := 35) rfl)),
  List.forall_mem_cons.mpr ⟨sd_oLdR_n 94 58 0 0 rfl (dk_94_0 (58, .aload_n 0, 1) (List.mem_of_getElem? (i := 36) rfl)),
  List.forall_mem_cons.mpr ⟨sd_oGetR 94 59 7 3 16 RX6 TX6 8 rfl ⟨by decide, by decide⟩ rfl (by decide) rfl (fun w h => iw_94 w (uz_6 w h)) rfl (iw_94 _ zw339) (dk_94_0 (59, .getfield 16, 3) (List.mem_of_getElem? (i := 37) rfl)),
  List.forall_mem_cons.mpr ⟨sd_alen 94 62 10 ⟨by decide, by decide⟩ (dk_94_0 (62, .arraylength, 1) (List.mem_of_getElem? (i := 38) rfl)),
  List.forall_mem_cons.mpr ⟨sd_iconst 94 63 1 ⟨by decide, by decide⟩ (dk_94_0 (63, .iconst 1, 1) (List.mem_of_getElem? (i := 39) rfl)),
  fun _ h => nomatch h⟩⟩⟩⟩⟩⟩⟩⟩⟩⟩⟩⟩⟩⟩⟩⟩⟩⟩⟩⟩⟩⟩⟩⟩⟩⟩⟩⟩⟩⟩⟩⟩⟩⟩⟩⟩⟩⟩⟩⟩
def tb_94_1 : List (Nat × Op1) := [(64, oSub), (65, oCne 72), (68, oCI 1 1), (69, oGoto 73), (72, oCI 0 1), (73, oRetZ)]
theorem sm_94_1 : ∀ q ∈ tb_94_1, SM GwP MdP D A l 94 q.1 q.2 :=
  List.forall_mem_cons.mpr ⟨sd_isub 94 64 (dk_94_1 (64, .isub, 1) (List.mem_of_getElem? (i := 0) rfl)),
  List.forall_mem_cons.mpr ⟨sd_icmp_ne 94 65 7 72 (by decide) (dk_94_1 (65, .if_icmp .ne 7, 3) (List.mem_of_getElem? (i := 1) rfl)),
  List.forall_mem_cons.mpr ⟨sd_iconst 94 68 1 ⟨by decide, by decide⟩ (dk_94_1 (68, .iconst 1, 1) (List.mem_of_getElem? (i := 2) rfl)),
  List.forall_mem_cons.mpr ⟨sd_goto 94 69 4 73 (by decide) (dk_94_1 (69, .goto 4, 3) (List.mem_of_getElem? (i := 3) rfl)),
  List.forall_mem_cons.mpr ⟨sd_iconst 94 72 0 ⟨by decide, by decide⟩ (dk_94_1 (72, .iconst 0, 1) (List.mem_of_getElem? (i := 4) rfl)),
  List.forall_mem_cons.mpr ⟨sd_zret 94 73 rfl (dk_94_1 (73, .ireturn, 1) (List.mem_of_getElem? (i := 5) rfl)),
  fun _ h => nomatch h⟩⟩⟩⟩⟩⟩
def tb_94 : List (List (Nat × Op1)) := [tb_94_0, tb_94_1]
theorem sm_94 : ∀ t ∈ tb_94, ∀ q ∈ t, SM GwP MdP D A l 94 q.1 q.2 := List.forall_mem_cons.mpr ⟨sm_94_0, List.forall_mem_cons.mpr ⟨sm_94_1, fun _ h => nomatch h⟩⟩
-- 95: MarginaliaLaw$Page.setRight()Z
def dl_95_0 : List (Nat × Instr × Nat) := [(0, .iconst 1, 1), (1, .aload_n 0, 1), (2, .aload_n 0, 1), (3, .getfield 16, 3), (6, .arraylength, 1), (7, .iconst 1, 1), (8, .isub, 1), (9, .invokevirtual 61, 3), (12, .iadd, 1), (13, .istore_n 1, 1), (14, .aload_n 0, 1), (15, .getfield 16, 3), (18, .iload_n 1, 1), (19, .iaload, 1), (20, .istore_n 2, 1), (21, .aload_n 0, 1), (22, .getfield 16, 3), (25, .iload_n 1, 1), (26, .aload_n 0, 1), (27, .iconst 5, 1), (28, .invokevirtual 61, 3), (31, .iastore, 1), (32, .aload_n 0, 1), (33, .getfield 10, 3), (36, .iconst 0, 1), (37, .iload_n 1, 1), (38, .aload_n 0, 1), (39, .getfield 16, 3), (42, .iload_n 1, 1), (43, .iaload, 1), (44, .invokevirtual 64, 3), (47, .iload_n 2, 1), (48, .if_icmp .ne 7, 3), (51, .iconst 1, 1), (52, .goto 4, 3), (55, .iconst 0, 1), (56, .ireturn, 1)]
theorem dk_95_0 : ∀ q ∈ dl_95_0, decode (mCod (MdP 95)) q.1 = .ok q.2 := by
  rw [show mCod (MdP 95) = cX6_setRight from rfl]
  decide +kernel
def tb_95_0 : List (Nat × Op1) := [(0, oCI 1 1), (1, oLdR 0 1), (2, oLdR 0 1), (3, oGetR 7 3), (6, oALen 10), (7, oCI 1 1), (8, oSub), (9, oCallV 90 1 3 7 []), (12, oAdd), (13, oStI 1 1), (14, oLdR 0 1), (15, oGetR 7 3), (18, oLdI 1 1), (19, oALdI 10), (20, oStI 2 1), (21, oLdR 0 1), (22, oGetR 7 3), (25, oLdI 1 1), (26, oLdR 0 1), (27, oCI 5 1), (28, oCallV 90 1 3 7 []), (31, oAStI), (32, oLdR 0 1), (33, oGetR 7 0), (36, oCI 0 1), (37, oLdI 1 1), (38, oLdR 0 1), (39, oGetR 7 3), (42, oLdI 1 1), (43, oALdI 10), (44, oCallV 33 3 5 6 []), (47, oLdI 2 1), (48, oCne 55), (51, oCI 1 1), (52, oGoto 56), (55, oCI 0 1), (56, oRetZ)]
theorem sm_95_0 : ∀ q ∈ tb_95_0, SM GwP MdP D A l 95 q.1 q.2 :=
  List.forall_mem_cons.mpr ⟨sd_iconst 95 0 1 ⟨by decide, by decide⟩ (dk_95_0 (0, .iconst 1, 1) (List.mem_of_getElem? (i := 0) rfl)),
  List.forall_mem_cons.mpr ⟨sd_oLdR_n 95 1 0 0 rfl (dk_95_0 (1, .aload_n 0, 1) (List.mem_of_getElem? (i := 1) rfl)),
  List.forall_mem_cons.mpr ⟨sd_oLdR_n 95 2 0 0 rfl (dk_95_0 (2, .aload_n 0, 1) (List.mem_of_getElem? (i := 2) rfl)),
  List.forall_mem_cons.mpr ⟨sd_oGetR 95 3 7 3 16 RX6 TX6 8 rfl ⟨by decide, by decide⟩ rfl (by decide) rfl (fun w h => iw_95 w (uz_6 w h)) rfl (iw_95 _ zw339) (dk_95_0 (3, .getfield 16, 3) (List.mem_of_getElem? (i := 3) rfl)),
  List.forall_mem_cons.mpr ⟨sd_alen 95 6 10 ⟨by decide, by decide⟩ (dk_95_0 (6, .arraylength, 1) (List.mem_of_getElem? (i := 4) rfl)),
  List.forall_mem_cons.mpr ⟨sd_iconst 95 7 1 ⟨by decide, by decide⟩ (dk_95_0 (7, .iconst 1, 1) (List.mem_of_getElem? (i := 5) rfl)),
  List.forall_mem_cons.mpr ⟨sd_isub 95 8 (dk_95_0 (8, .isub, 1) (List.mem_of_getElem? (i := 6) rfl)),
  List.forall_mem_cons.mpr ⟨sd_callV 95 9 90 1 3 61 7 [] (gdV hws_95 hws_90 zw359 zw360 zw361 zw362 zw358) hws_90 rfl (by decide +kernel) rfl rfl ⟨by decide +kernel, by decide +kernel, by decide +kernel⟩ ⟨by decide, by decide⟩ (catch_nil rfl) RX6 rfl TX6 8 rfl ⟨by decide, by decide⟩ (dk_95_0 (9, .invokevirtual 61, 3) (List.mem_of_getElem? (i := 7) rfl)),
  List.forall_mem_cons.mpr ⟨sd_iadd 95 12 (dk_95_0 (12, .iadd, 1) (List.mem_of_getElem? (i := 8) rfl)),
  List.forall_mem_cons.mpr ⟨sd_oStI_n 95 13 1 1 rfl (by decide) (dk_95_0 (13, .istore_n 1, 1) (List.mem_of_getElem? (i := 9) rfl)),
  List.forall_mem_cons.mpr ⟨sd_oLdR_n 95 14 0 0 rfl (dk_95_0 (14, .aload_n 0, 1) (List.mem_of_getElem? (i := 10) rfl)),
  List.forall_mem_cons.mpr ⟨sd_oGetR 95 15 7 3 16 RX6 TX6 8 rfl ⟨by decide, by decide⟩ rfl (by decide) rfl (fun w h => iw_95 w (uz_6 w h)) rfl (iw_95 _ zw339) (dk_95_0 (15, .getfield 16, 3) (List.mem_of_getElem? (i := 11) rfl)),
  List.forall_mem_cons.mpr ⟨sd_oLdI_n 95 18 1 1 rfl (dk_95_0 (18, .iload_n 1, 1) (List.mem_of_getElem? (i := 12) rfl)),
  List.forall_mem_cons.mpr ⟨sd_iald 95 19 (dk_95_0 (19, .iaload, 1) (List.mem_of_getElem? (i := 13) rfl)),
  List.forall_mem_cons.mpr ⟨sd_oStI_n 95 20 2 2 rfl (by decide) (dk_95_0 (20, .istore_n 2, 1) (List.mem_of_getElem? (i := 14) rfl)),
  List.forall_mem_cons.mpr ⟨sd_oLdR_n 95 21 0 0 rfl (dk_95_0 (21, .aload_n 0, 1) (List.mem_of_getElem? (i := 15) rfl)),
  List.forall_mem_cons.mpr ⟨sd_oGetR 95 22 7 3 16 RX6 TX6 8 rfl ⟨by decide, by decide⟩ rfl (by decide) rfl (fun w h => iw_95 w (uz_6 w h)) rfl (iw_95 _ zw339) (dk_95_0 (22, .getfield 16, 3) (List.mem_of_getElem? (i := 16) rfl)),
  List.forall_mem_cons.mpr ⟨sd_oLdI_n 95 25 1 1 rfl (dk_95_0 (25, .iload_n 1, 1) (List.mem_of_getElem? (i := 17) rfl)),
  List.forall_mem_cons.mpr ⟨sd_oLdR_n 95 26 0 0 rfl (dk_95_0 (26, .aload_n 0, 1) (List.mem_of_getElem? (i := 18) rfl)),
  List.forall_mem_cons.mpr ⟨sd_iconst 95 27 5 ⟨by decide, by decide⟩ (dk_95_0 (27, .iconst 5, 1) (List.mem_of_getElem? (i := 19) rfl)),
  List.forall_mem_cons.mpr ⟨sd_callV 95 28 90 1 3 61 7 [] (gdV hws_95 hws_90 zw359 zw360 zw361 zw362 zw358) hws_90 rfl (by decide +kernel) rfl rfl ⟨by decide +kernel, by decide +kernel, by decide +kernel⟩ ⟨by decide, by decide⟩ (catch_nil rfl) RX6 rfl TX6 8 rfl ⟨by decide, by decide⟩ (dk_95_0 (28, .invokevirtual 61, 3) (List.mem_of_getElem? (i := 20) rfl)),
  List.forall_mem_cons.mpr ⟨sd_iast 95 31 (dk_95_0 (31, .iastore, 1) (List.mem_of_getElem? (i := 21) rfl)),
  List.forall_mem_cons.mpr ⟨sd_oLdR_n 95 32 0 0 rfl (dk_95_0 (32, .aload_n 0, 1) (List.mem_of_getElem? (i := 22) rfl)),
  List.forall_mem_cons.mpr ⟨sd_oGetR 95 33 7 0 10 RX6 TX6 8 rfl ⟨by decide, by decide⟩ rfl (by decide) rfl (fun w h => iw_95 w (uz_6 w h)) rfl (iw_95 _ zw338) (dk_95_0 (33, .getfield 10, 3) (List.mem_of_getElem? (i := 23) rfl)),
  List.forall_mem_cons.mpr ⟨sd_iconst 95 36 0 ⟨by decide, by decide⟩ (dk_95_0 (36, .iconst 0, 1) (List.mem_of_getElem? (i := 24) rfl)),
  List.forall_mem_cons.mpr ⟨sd_oLdI_n 95 37 1 1 rfl (dk_95_0 (37, .iload_n 1, 1) (List.mem_of_getElem? (i := 25) rfl)),
  List.forall_mem_cons.mpr ⟨sd_oLdR_n 95 38 0 0 rfl (dk_95_0 (38, .aload_n 0, 1) (List.mem_of_getElem? (i := 26) rfl)),
  List.forall_mem_cons.mpr ⟨sd_oGetR 95 39 7 3 16 RX6 TX6 8 rfl ⟨by decide, by decide⟩ rfl (by decide) rfl (fun w h => iw_95 w (uz_6 w h)) rfl (iw_95 _ zw339) (dk_95_0 (39, .getfield 16, 3) (List.mem_of_getElem? (i := 27) rfl)),
  List.forall_mem_cons.mpr ⟨sd_oLdI_n 95 42 1 1 rfl (dk_95_0 (42, .iload_n 1, 1) (List.mem_of_getElem? (i := 28) rfl)),
  List.forall_mem_cons.mpr ⟨sd_iald 95 43 (dk_95_0 (43, .iaload, 1) (List.mem_of_getElem? (i := 29) rfl)),
  List.forall_mem_cons.mpr ⟨sd_callV 95 44 33 3 5 64 6 [] (gdV hws_95 hws_33 zw364 zw365 zw366 zw63 zw363) hws_33 rfl (by decide +kernel) rfl rfl ⟨by decide +kernel, by decide +kernel, by decide +kernel⟩ ⟨by decide, by decide⟩ (catch_nil rfl) RX5 rfl TX5 7 rfl ⟨by decide, by decide⟩ (dk_95_0 (44, .invokevirtual 64, 3) (List.mem_of_getElem? (i := 30) rfl)),
  List.forall_mem_cons.mpr ⟨sd_oLdI_n 95 47 2 2 rfl (dk_95_0 (47, .iload_n 2, 1) (List.mem_of_getElem? (i := 31) rfl)),
  List.forall_mem_cons.mpr ⟨sd_icmp_ne 95 48 7 55 (by decide) (dk_95_0 (48, .if_icmp .ne 7, 3) (List.mem_of_getElem? (i := 32) rfl)),
  List.forall_mem_cons.mpr ⟨sd_iconst 95 51 1 ⟨by decide, by decide⟩ (dk_95_0 (51, .iconst 1, 1) (List.mem_of_getElem? (i := 33) rfl)),
  List.forall_mem_cons.mpr ⟨sd_goto 95 52 4 56 (by decide) (dk_95_0 (52, .goto 4, 3) (List.mem_of_getElem? (i := 34) rfl)),
  List.forall_mem_cons.mpr ⟨sd_iconst 95 55 0 ⟨by decide, by decide⟩ (dk_95_0 (55, .iconst 0, 1) (List.mem_of_getElem? (i := 35) rfl)),
  List.forall_mem_cons.mpr ⟨sd_zret 95 56 rfl (dk_95_0 (56, .ireturn, 1) (List.mem_of_getElem? (i := 36) rfl)),
  fun _ h => nomatch h⟩⟩⟩⟩⟩⟩⟩⟩⟩⟩⟩⟩⟩⟩⟩⟩⟩⟩⟩⟩⟩⟩⟩⟩⟩⟩⟩⟩⟩⟩⟩⟩⟩⟩⟩⟩⟩
def tb_95 : List (List (Nat × Op1)) := [tb_95_0]
theorem sm_95 : ∀ t ∈ tb_95, ∀ q ∈ t, SM GwP MdP D A l 95 q.1 q.2 := List.forall_mem_cons.mpr ⟨sm_95_0, fun _ h => nomatch h⟩
-- 96: MarginaliaLaw$Page.put(III)V
def dl_96_0 : List (Nat × Instr × Nat) := [(0, .aload_n 0, 1), (1, .invokevirtual 68, 3), (4, .astore 4, 2), (6, .iconst 0, 1), (7, .istore 5, 2), (9, .iload 5, 2), (11, .iload_n 2, 1), (12, .if_icmp .ge 51, 3), (15, .iconst 2, 1), (16, .newarray .int, 2), (18, .dup, 1), (19, .iconst 0, 1), (20, .aload_n 0, 1), (21, .dup, 1), (22, .getfield 72, 3), (25, .dup_x1, 1), (26, .iconst 1, 1), (27, .iadd, 1), (28, .putfield 72, 3), (31, .iastore, 1), (32, .dup, 1), (33, .iconst 1, 1), (34, .iload_n 3, 1), (35, .iload 5, 2), (37, .iadd, 1), (38, .bipush 26, 2), (40, .irem, 1), (41, .iastore, 1), (42, .astore 6, 2), (44, .aload 4, 2), (46, .iload_n 1, 1), (47, .iload 5, 2), (49, .iadd, 1), (50, .aload 6, 2), (52, .invokestatic 75, 3), (55, .astore 4, 2), (57, .iinc 5 1, 3), (60, .goto (-51), 3), (63, .aload_n 0, 1), (64, .aload 4, 2)]
theorem dk_96_0 : ∀ q ∈ dl_96_0, decode (mCod (MdP 96)) q.1 = .ok q.2 := by
  rw [show mCod (MdP 96) = cX6_put from rfl]
  decide +kernel
def dl_96_1 : List (Nat × Instr × Nat) := [(66, .invokevirtual 79, 3), (69, .aload_n 0, 1), (70, .getfield 26, 3), (73, .astore 5, 2), (75, .aload 5, 2), (77, .arraylength, 1), (78, .istore 6, 2), (80, .iconst 0, 1), (81, .istore 7, 2), (83, .iload 7, 2), (85, .iload 6, 2), (87, .if_icmp .ge 66, 3), (90, .aload 5, 2), (92, .iload 7, 2), (94, .aaload, 1), (95, .astore 8, 2), (97, .aload 8, 2), (99, .iconst 2, 1), (100, .iaload, 1), (101, .ifCond .lt 6, 3), (104, .goto 43, 3), (107, .iload_n 1, 1), (108, .aload 8, 2), (110, .iconst 5, 1), (111, .iaload, 1), (112, .if_icmp .gt 14, 3), (115, .aload 8, 2), (117, .iconst 5, 1), (118, .dup2, 1), (119, .iaload, 1), (120, .iload_n 2, 1), (121, .iadd, 1), (122, .iastore, 1), (123, .goto 15, 3), (126, .iload_n 1, 1), (127, .aload 8, 2), (129, .bipush 6, 2), (131, .iaload, 1), (132, .if_icmp .lt 6, 3), (135, .goto 12, 3)]
theorem dk_96_1 : ∀ q ∈ dl_96_1, decode (mCod (MdP 96)) q.1 = .ok q.2 := by
  rw [show mCod (MdP 96) = cX6_put from rfl]
  decide +kernel
def dl_96_2 : List (Nat × Instr × Nat) := [(138, .aload 8, 2), (140, .bipush 6, 2), (142, .dup2, 1), (143, .iaload, 1), (144, .iload_n 2, 1), (145, .iadd, 1), (146, .iastore, 1), (147, .iinc 7 1, 3), (150, .goto (-67), 3), (153, .return_, 1)]
theorem dk_96_2 : ∀ q ∈ dl_96_2, decode (mCod (MdP 96)) q.1 = .ok q.2 := by
  rw [show mCod (MdP 96) = cX6_put from rfl]
  decide +kernel
def tb_96_0 : List (Nat × Op1) := [(0, oLdR 0 1), (1, oCallV 92 0 1 7 []), (4, oStR 4 2), (6, oCI 0 1), (7, oStI 5 2), (9, oLdI 5 2), (11, oLdI 2 1), (12, oCge 63), (15, oCI 2 1), (16, oNewA 10 2), (18, oDup), (19, oCI 0 1), (20, oLdR 0 1), (21, oDup), (22, oGetI 7 4), (25, oDupX1), (26, oCI 1 1), (27, oAdd), (28, oPutI 7 4), (31, oAStI), (32, oDup), (33, oCI 1 1), (34, oLdI 3 1), (35, oLdI 5 2), (37, oAdd), (38, oCI 26 2), (40, oRem), (41, oAStI), (42, oStR 6 2), (44, oLdR 4 2), (46, oLdI 1 1), (47, oLdI 5 2), (49, oAdd), (50, oLdR 6 2), (52, oCallS 91 3 4 []), (55, oStR 4 2), (57, oInc 5 1), (60, oGoto 9), (63, oLdR 0 1)]
theorem sm_96_0 : ∀ q ∈ tb_96_0, SM GwP MdP D A l 96 q.1 q.2 :=
  List.forall_mem_cons.mpr ⟨sd_oLdR_n 96 0 0 0 rfl (dk_96_0 (0, .aload_n 0, 1) (List.mem_of_getElem? (i := 0) rfl)),
  List.forall_mem_cons.mpr ⟨sd_callV 96 1 92 0 1 68 7 [] (gdV hws_96 hws_92 zw368 zw369 zw370 zw362 zw367) hws_92 rfl (by decide +kernel) rfl rfl ⟨by decide +kernel, by decide +kernel, by decide +kernel⟩ ⟨by decide, by decide⟩ (catch_nil rfl) RX6 rfl TX6 8 rfl ⟨by decide, by decide⟩ (dk_96_0 (1, .invokevirtual 68, 3) (List.mem_of_getElem? (i := 1) rfl)),
  List.forall_mem_cons.mpr ⟨sd_oStR 96 4 4 (by decide) (dk_96_0 (4, .astore 4, 2) (List.mem_of_getElem? (i := 2) rfl)),
  List.forall_mem_cons.mpr ⟨sd_iconst 96 6 0 ⟨by decide, by decide⟩ (dk_96_0 (6, .iconst 0, 1) (List.mem_of_getElem? (i := 3) rfl)),
  List.forall_mem_cons.mpr ⟨sd_oStI 96 7 5 (by decide) (dk_96_0 (7, .istore 5, 2) (List.mem_of_getElem? (i := 4) rfl)),
  List.forall_mem_cons.mpr ⟨sd_oLdI 96 9 5 (dk_96_0 (9, .iload 5, 2) (List.mem_of_getElem? (i := 5) rfl)),
  List.forall_mem_cons.mpr ⟨sd_oLdI_n 96 11 2 2 rfl (dk_96_0 (11, .iload_n 2, 1) (List.mem_of_getElem? (i := 6) rfl)),
  List.forall_mem_cons.mpr ⟨sd_icmp_ge 96 12 51 63 (by decide) (dk_96_0 (12, .if_icmp .ge 51, 3) (List.mem_of_getElem? (i := 7) rfl)),
  List.forall_mem_cons.mpr ⟨sd_iconst 96 15 2 ⟨by decide, by decide⟩ (dk_96_0 (15, .iconst 2, 1) (List.mem_of_getElem? (i := 8) rfl)),
  List.forall_mem_cons.mpr ⟨sd_newA 96 16 10 .int (Or.inl ⟨rfl, rfl⟩) (iw_96 _ zw22) (dk_96_0 (16, .newarray .int, 2) (List.mem_of_getElem? (i := 9) rfl)),
  List.forall_mem_cons.mpr ⟨sd_dup 96 18 (dk_96_0 (18, .dup, 1) (List.mem_of_getElem? (i := 10) rfl)),
  List.forall_mem_cons.mpr ⟨sd_iconst 96 19 0 ⟨by decide, by decide⟩ (dk_96_0 (19, .iconst 0, 1) (List.mem_of_getElem? (i := 11) rfl)),
  List.forall_mem_cons.mpr ⟨sd_oLdR_n 96 20 0 0 rfl (dk_96_0 (20, .aload_n 0, 1) (List.mem_of_getElem? (i := 12) rfl)),
  List.forall_mem_cons.mpr ⟨sd_dup 96 21 (dk_96_0 (21, .dup, 1) (List.mem_of_getElem? (i := 13) rfl)),
  List.forall_mem_cons.mpr ⟨sd_oGetI 96 22 7 4 72 RX6 TX6 8 rfl ⟨by decide, by decide⟩ rfl (by decide) rfl (fun w h => iw_96 w (uz_6 w h)) rfl (iw_96 _ zw371) (dk_96_0 (22, .getfield 72, 3) (List.mem_of_getElem? (i := 14) rfl)),
  List.forall_mem_cons.mpr ⟨sd_dup_x1 96 25 (dk_96_0 (25, .dup_x1, 1) (List.mem_of_getElem? (i := 15) rfl)),
  List.forall_mem_cons.mpr ⟨sd_iconst 96 26 1 ⟨by decide, by decide⟩ (dk_96_0 (26, .iconst 1, 1) (List.mem_of_getElem? (i := 16) rfl)),
  List.forall_mem_cons.mpr ⟨sd_iadd 96 27 (dk_96_0 (27, .iadd, 1) (List.mem_of_getElem? (i := 17) rfl)),
  List.forall_mem_cons.mpr ⟨sd_oPutI 96 28 7 4 72 RX6 TX6 8 rfl ⟨by decide, by decide⟩ rfl (by decide) rfl (fun w h => iw_96 w (uz_6 w h)) rfl tyX6 tyX6_ok nmX6 rfl rfl (iw_96 _ zw371) (dk_96_0 (28, .putfield 72, 3) (List.mem_of_getElem? (i := 18) rfl)),
  List.forall_mem_cons.mpr ⟨sd_iast 96 31 (dk_96_0 (31, .iastore, 1) (List.mem_of_getElem? (i := 19) rfl)),
  List.forall_mem_cons.mpr ⟨sd_dup 96 32 (dk_96_0 (32, .dup, 1) (List.mem_of_getElem? (i := 20) rfl)),
  List.forall_mem_cons.mpr ⟨sd_iconst 96 33 1 ⟨by decide, by decide⟩ (dk_96_0 (33, .iconst 1, 1) (List.mem_of_getElem? (i := 21) rfl)),
  List.forall_mem_cons.mpr ⟨sd_oLdI_n 96 34 3 3 rfl (dk_96_0 (34, .iload_n 3, 1) (List.mem_of_getElem? (i := 22) rfl)),
  List.forall_mem_cons.mpr ⟨sd_oLdI 96 35 5 (dk_96_0 (35, .iload 5, 2) (List.mem_of_getElem? (i := 23) rfl)),
  List.forall_mem_cons.mpr ⟨sd_iadd 96 37 (dk_96_0 (37, .iadd, 1) (List.mem_of_getElem? (i := 24) rfl)),
  List.forall_mem_cons.mpr ⟨sd_bipush 96 38 26 ⟨by decide, by decide⟩ (by decide) (dk_96_0 (38, .bipush 26, 2) (List.mem_of_getElem? (i := 25) rfl)),
  List.forall_mem_cons.mpr ⟨sd_irem 96 40 (dk_96_0 (40, .irem, 1) (List.mem_of_getElem? (i := 26) rfl)),
  List.forall_mem_cons.mpr ⟨sd_iast 96 41 (dk_96_0 (41, .iastore, 1) (List.mem_of_getElem? (i := 27) rfl)),
  List.forall_mem_cons.mpr ⟨sd_oStR 96 42 6 (by decide) (dk_96_0 (42, .astore 6, 2) (List.mem_of_getElem? (i := 28) rfl)),
  List.forall_mem_cons.mpr ⟨sd_oLdR 96 44 4 (dk_96_0 (44, .aload 4, 2) (List.mem_of_getElem? (i := 29) rfl)),
  List.forall_mem_cons.mpr ⟨sd_oLdI_n 96 46 1 1 rfl (dk_96_0 (46, .iload_n 1, 1) (List.mem_of_getElem? (i := 30) rfl)),
  List.forall_mem_cons.mpr ⟨sd_oLdI 96 47 5 (dk_96_0 (47, .iload 5, 2) (List.mem_of_getElem? (i := 31) rfl)),
  List.forall_mem_cons.mpr ⟨sd_iadd 96 49 (dk_96_0 (49, .iadd, 1) (List.mem_of_getElem? (i := 32) rfl)),
  List.forall_mem_cons.mpr ⟨sd_oLdR 96 50 6 (dk_96_0 (50, .aload 6, 2) (List.mem_of_getElem? (i := 33) rfl)),
  List.forall_mem_cons.mpr ⟨sd_callS 96 52 91 3 4 75 [] (gdS hws_96 hws_91 zw373 zw374 zw362 zw372) hws_91 rfl (by decide +kernel) rfl rfl ⟨by decide +kernel, by decide +kernel, by decide +kernel⟩ ⟨by decide, by decide⟩ (catch_nil rfl) (dk_96_0 (52, .invokestatic 75, 3) (List.mem_of_getElem? (i := 34) rfl)),
  List.forall_mem_cons.mpr ⟨sd_oStR 96 55 4 (by decide) (dk_96_0 (55, .astore 4, 2) (List.mem_of_getElem? (i := 35) rfl)),
  List.forall_mem_cons.mpr ⟨sd_iinc 96 57 5 1 (by decide) (dk_96_0 (57, .iinc 5 1, 3) (List.mem_of_getElem? (i := 36) rfl)),
  List.forall_mem_cons.mpr ⟨sd_goto 96 60 (-51) 9 (by decide) (dk_96_0 (60, .goto (-51), 3) (List.mem_of_getElem? (i := 37) rfl)),
  List.forall_mem_cons.mpr ⟨sd_oLdR_n 96 63 0 0 rfl (dk_96_0 (63, .aload_n 0, 1) (List.mem_of_getElem? (i := 38) rfl)),
  fun _ h => nomatch h⟩⟩⟩⟩⟩⟩⟩⟩⟩⟩⟩⟩⟩⟩⟩⟩⟩⟩⟩⟩⟩⟩⟩⟩⟩⟩⟩⟩⟩⟩⟩⟩⟩⟩⟩⟩⟩⟩⟩
def tb_96_1 : List (Nat × Op1) := [(64, oLdR 4 2), (66, oCallV 93 1 3 7 []), (69, oLdR 0 1), (70, oGetR 7 6), (73, oStR 5 2), (75, oLdR 5 2), (77, oALen 14), (78, oStI 6 2), (80, oCI 0 1), (81, oStI 7 2), (83, oLdI 7 2), (85, oLdI 6 2), (87, oCge 153), (90, oLdR 5 2), (92, oLdI 7 2), (94, oALdR 14), (95, oStR 8 2), (97, oLdR 8 2), (99, oCI 2 1), (100, oALdI 10), (101, oZlt 107), (104, oGoto 147), (107, oLdI 1 1), (108, oLdR 8 2), (110, oCI 5 1), (111, oALdI 10), (112, oCgt 126), (115, oLdR 8 2), (117, oCI 5 1), (118, oDup2), (119, oALdI 10), (120, oLdI 2 1), (121, oAdd), (122, oAStI), (123, oGoto 138), (126, oLdI 1 1), (127, oLdR 8 2)]
theorem sm_96_1 : ∀ q ∈ tb_96_1, SM GwP MdP D A l 96 q.1 q.2 :=
  List.forall_mem_cons.mpr ⟨sd_oLdR 96 64 4 (dk_96_0 (64, .aload 4, 2) (List.mem_of_getElem? (i := 39) rfl)),
  List.forall_mem_cons.mpr ⟨sd_callV 96 66 93 1 3 79 7 [] (gdV hws_96 hws_93 zw376 zw377 zw378 zw362 zw375) hws_93 rfl (by decide +kernel) rfl rfl ⟨by decide +kernel, by decide +kernel, by decide +kernel⟩ ⟨by decide, by decide⟩ (catch_nil rfl) RX6 rfl TX6 8 rfl ⟨by decide, by decide⟩ (dk_96_1 (66, .invokevirtual 79, 3) (List.mem_of_getElem? (i := 0) rfl)),
  List.forall_mem_cons.mpr ⟨sd_oLdR_n 96 69 0 0 rfl (dk_96_1 (69, .aload_n 0, 1) (List.mem_of_getElem? (i := 1) rfl)),
  List.forall_mem_cons.mpr ⟨sd_oGetR 96 70 7 6 26 RX6 TX6 8 rfl ⟨by decide, by decide⟩ rfl (by decide) rfl (fun w h => iw_96 w (uz_6 w h)) rfl (iw_96 _ zw343) (dk_96_1 (70, .getfield 26, 3) (List.mem_of_getElem? (i := 2) rfl)),
  List.forall_mem_cons.mpr ⟨sd_oStR 96 73 5 (by decide) (dk_96_1 (73, .astore 5, 2) (List.mem_of_getElem? (i := 3) rfl)),
  List.forall_mem_cons.mpr ⟨sd_oLdR 96 75 5 (dk_96_1 (75, .aload 5, 2) (List.mem_of_getElem? (i := 4) rfl)),
  List.forall_mem_cons.mpr ⟨sd_alen 96 77 14 ⟨by decide, by decide⟩ (dk_96_1 (77, .arraylength, 1) (List.mem_of_getElem? (i := 5) rfl)),
  List.forall_mem_cons.mpr ⟨sd_oStI 96 78 6 (by decide) (dk_96_1 (78, .istore 6, 2) (List.mem_of_getElem? (i := 6) rfl)),
  List.forall_mem_cons.mpr ⟨sd_iconst 96 80 0 ⟨by decide, by decide⟩ (dk_96_1 (80, .iconst 0, 1) (List.mem_of_getElem? (i := 7) rfl)),
  List.forall_mem_cons.mpr ⟨sd_oStI 96 81 7 (by decide) (dk_96_1 (81, .istore 7, 2) (List.mem_of_getElem? (i := 8) rfl)),
  List.forall_mem_cons.mpr ⟨sd_oLdI 96 83 7 (dk_96_1 (83, .iload 7, 2) (List.mem_of_getElem? (i := 9) rfl)),
  List.forall_mem_cons.mpr ⟨sd_oLdI 96 85 6 (dk_96_1 (85, .iload 6, 2) (List.mem_of_getElem? (i := 10) rfl)),
  List.forall_mem_cons.mpr ⟨sd_icmp_ge 96 87 66 153 (by decide) (dk_96_1 (87, .if_icmp .ge 66, 3) (List.mem_of_getElem? (i := 11) rfl)),
  List.forall_mem_cons.mpr ⟨sd_oLdR 96 90 5 (dk_96_1 (90, .aload 5, 2) (List.mem_of_getElem? (i := 12) rfl)),
  List.forall_mem_cons.mpr ⟨sd_oLdI 96 92 7 (dk_96_1 (92, .iload 7, 2) (List.mem_of_getElem? (i := 13) rfl)),
  List.forall_mem_cons.mpr ⟨sd_aaldA 96 94 (dk_96_1 (94, .aaload, 1) (List.mem_of_getElem? (i := 14) rfl)),
  List.forall_mem_cons.mpr ⟨sd_oStR 96 95 8 (by decide) (dk_96_1 (95, .astore 8, 2) (List.mem_of_getElem? (i := 15) rfl)),
  List.forall_mem_cons.mpr ⟨sd_oLdR 96 97 8 (dk_96_1 (97, .aload 8, 2) (List.mem_of_getElem? (i := 16) rfl)),
  List.forall_mem_cons.mpr ⟨sd_iconst 96 99 2 ⟨by decide, by decide⟩ (dk_96_1 (99, .iconst 2, 1) (List.mem_of_getElem? (i := 17) rfl)),
  List.forall_mem_cons.mpr ⟨sd_iald 96 100 (dk_96_1 (100, .iaload, 1) (List.mem_of_getElem? (i := 18) rfl)),
  List.forall_mem_cons.mpr ⟨sd_if_lt 96 101 6 107 (by decide) (dk_96_1 (101, .ifCond .lt 6, 3) (List.mem_of_getElem? (i := 19) rfl)),
  List.forall_mem_cons.mpr ⟨sd_goto 96 104 43 147 (by decide) (dk_96_1 (104, .goto 43, 3) (List.mem_of_getElem? (i := 20) rfl)),
  List.forall_mem_cons.mpr ⟨sd_oLdI_n 96 107 1 1 rfl (dk_96_1 (107, .iload_n 1, 1) (List.mem_of_getElem? (i := 21) rfl)),
  List.forall_mem_cons.mpr ⟨sd_oLdR 96 108 8 (dk_96_1 (108, .aload 8, 2) (List.mem_of_getElem? (i := 22) rfl)),
  List.forall_mem_cons.mpr ⟨sd_iconst 96 110 5 ⟨by decide, by decide⟩ (dk_96_1 (110, .iconst 5, 1) (List.mem_of_getElem? (i := 23) rfl)),
  List.forall_mem_cons.mpr ⟨sd_iald 96 111 (dk_96_1 (111, .iaload, 1) (List.mem_of_getElem? (i := 24) rfl)),
  List.forall_mem_cons.mpr ⟨sd_icmp_gt 96 112 14 126 (by decide) (dk_96_1 (112, .if_icmp .gt 14, 3) (List.mem_of_getElem? (i := 25) rfl)),
  List.forall_mem_cons.mpr ⟨sd_oLdR 96 115 8 (dk_96_1 (115, .aload 8, 2) (List.mem_of_getElem? (i := 26) rfl)),
  List.forall_mem_cons.mpr ⟨sd_iconst 96 117 5 ⟨by decide, by decide⟩ (dk_96_1 (117, .iconst 5, 1) (List.mem_of_getElem? (i := 27) rfl)),
  List.forall_mem_cons.mpr ⟨sd_dup2 96 118 (dk_96_1 (118, .dup2, 1) (List.mem_of_getElem? (i := 28) rfl)),
  List.forall_mem_cons.mpr ⟨sd_iald 96 119 (dk_96_1 (119, .iaload, 1) (List.mem_of_getElem? (i := 29) rfl)),
  List.forall_mem_cons.mpr ⟨sd_oLdI_n 96 120 2 2 rfl (dk_96_1 (120, .iload_n 2, 1) (List.mem_of_getElem? (i := 30) rfl)),
  List.forall_mem_cons.mpr ⟨sd_iadd 96 121 (dk_96_1 (121, .iadd, 1) (List.mem_of_getElem? (i := 31) rfl)),
  List.forall_mem_cons.mpr ⟨sd_iast 96 122 (dk_96_1 (122, .iastore, 1) (List.mem_of_getElem? (i := 32) rfl)),
  List.forall_mem_cons.mpr ⟨sd_goto 96 123 15 138 (by decide) (dk_96_1 (123, .goto 15, 3) (List.mem_of_getElem? (i := 33) rfl)),
  List.forall_mem_cons.mpr ⟨sd_oLdI_n 96 126 1 1 rfl (dk_96_1 (126, .iload_n 1, 1) (List.mem_of_getElem? (i := 34) rfl)),
  List.forall_mem_cons.mpr ⟨sd_oLdR 96 127 8 (dk_96_1 (127, .aload 8, 2) (List.mem_of_getElem? (i := 35) rfl)),
  fun _ h => nomatch h⟩⟩⟩⟩⟩⟩⟩⟩⟩⟩⟩⟩⟩⟩⟩⟩⟩⟩⟩⟩⟩⟩⟩⟩⟩⟩⟩⟩⟩⟩⟩⟩⟩⟩⟩⟩⟩
def tb_96_2 : List (Nat × Op1) := [(129, oCI 6 2), (131, oALdI 10), (132, oClt 138), (135, oGoto 147), (138, oLdR 8 2), (140, oCI 6 2), (142, oDup2), (143, oALdI 10), (144, oLdI 2 1), (145, oAdd), (146, oAStI), (147, oInc 7 1), (150, oGoto 83), (153, oRetV)]
theorem sm_96_2 : ∀ q ∈ tb_96_2, SM GwP MdP D A l 96 q.1 q.2 :=
  List.forall_mem_cons.mpr ⟨sd_bipush 96 129 6 ⟨by decide, by decide⟩ (by decide) (dk_96_1 (129, .bipush 6, 2) (List.mem_of_getElem? (i := 36) rfl)),
  List.forall_mem_cons.mpr ⟨sd_iald 96 131 (dk_96_1 (131, .iaload, 1) (List.mem_of_getElem? (i := 37) rfl)),
  List.forall_mem_cons.mpr ⟨sd_icmp_lt 96 132 6 138 (by decide) (dk_96_1 (132, .if_icmp .lt 6, 3) (List.mem_of_getElem? (i := 38) rfl)),
  List.forall_mem_cons.mpr ⟨sd_goto 96 135 12 147 (by decide) (dk_96_1 (135, .goto 12, 3) (List.mem_of_getElem? (i := 39) rfl)),
  List.forall_mem_cons.mpr ⟨sd_oLdR 96 138 8 (dk_96_2 (138, .aload 8, 2) (List.mem_of_getElem? (i := 0) rfl)),
  List.forall_mem_cons.mpr ⟨sd_bipush 96 140 6 ⟨by decide, by decide⟩ (by decide) (dk_96_2 (140, .bipush 6, 2) (List.mem_of_getElem? (i := 1) rfl)),
  List.forall_mem_cons.mpr ⟨sd_dup2 96 142 (dk_96_2 (142, .dup2, 1) (List.mem_of_getElem? (i := 2) rfl)),
  List.forall_mem_cons.mpr ⟨sd_iald 96 143 (dk_96_2 (143, .iaload, 1) (List.mem_of_getElem? (i := 3) rfl)),
  List.forall_mem_cons.mpr ⟨sd_oLdI_n 96 144 2 2 rfl (dk_96_2 (144, .iload_n 2, 1) (List.mem_of_getElem? (i := 4) rfl)),
  List.forall_mem_cons.mpr ⟨sd_iadd 96 145 (dk_96_2 (145, .iadd, 1) (List.mem_of_getElem? (i := 5) rfl)),
  List.forall_mem_cons.mpr ⟨sd_iast 96 146 (dk_96_2 (146, .iastore, 1) (List.mem_of_getElem? (i := 6) rfl)),
  List.forall_mem_cons.mpr ⟨sd_iinc 96 147 7 1 (by decide) (dk_96_2 (147, .iinc 7 1, 3) (List.mem_of_getElem? (i := 7) rfl)),
  List.forall_mem_cons.mpr ⟨sd_goto 96 150 (-67) 83 (by decide) (dk_96_2 (150, .goto (-67), 3) (List.mem_of_getElem? (i := 8) rfl)),
  List.forall_mem_cons.mpr ⟨sd_vret 96 153 rfl (dk_96_2 (153, .return_, 1) (List.mem_of_getElem? (i := 9) rfl)),
  fun _ h => nomatch h⟩⟩⟩⟩⟩⟩⟩⟩⟩⟩⟩⟩⟩⟩
def tb_96 : List (List (Nat × Op1)) := [tb_96_0, tb_96_1, tb_96_2]
theorem sm_96 : ∀ t ∈ tb_96, ∀ q ∈ t, SM GwP MdP D A l 96 q.1 q.2 := List.forall_mem_cons.mpr ⟨sm_96_0, List.forall_mem_cons.mpr ⟨sm_96_1, List.forall_mem_cons.mpr ⟨sm_96_2, fun _ h => nomatch h⟩⟩⟩
-- 97: MarginaliaLaw$Page.cut(II)V
def dl_97_0 : List (Nat × Instr × Nat) := [(0, .aload_n 0, 1), (1, .invokevirtual 68, 3), (4, .astore_n 3, 1), (5, .aload_n 3, 1), (6, .arraylength, 1), (7, .iload_n 2, 1), (8, .isub, 1), (9, .anewarray 25, 3), (12, .astore 4, 2), (14, .iconst 0, 1), (15, .istore 5, 2), (17, .iload 5, 2), (19, .aload 4, 2), (21, .arraylength, 1), (22, .if_icmp .ge 31, 3), (25, .aload 4, 2), (27, .iload 5, 2), (29, .aload_n 3, 1), (30, .iload 5, 2), (32, .iload_n 1, 1), (33, .if_icmp .ge 8, 3), (36, .iload 5, 2), (38, .goto 7, 3), (41, .iload 5, 2), (43, .iload_n 2, 1), (44, .iadd, 1), (45, .aaload, 1), (46, .aastore, 1), (47, .iinc 5 1, 3), (50, .goto (-33), 3), (53, .aload_n 0, 1), (54, .aload 4, 2), (56, .invokevirtual 79, 3), (59, .aload_n 0, 1), (60, .getfield 26, 3), (63, .astore 5, 2), (65, .aload 5, 2), (67, .arraylength, 1), (68, .istore 6, 2), (70, .iconst 0, 1)]
theorem dk_97_0 : ∀ q ∈ dl_97_0, decode (mCod (MdP 97)) q.1 = .ok q.2 := by
  rw [show mCod (MdP 97) = cX6_cut from rfl]
  decide +kernel
def dl_97_1 : List (Nat × Instr × Nat) := [(71, .istore 7, 2), (73, .iload 7, 2), (75, .iload 6, 2), (77, .if_icmp .ge 86, 3), (80, .aload 5, 2), (82, .iload 7, 2), (84, .aaload, 1), (85, .astore 8, 2), (87, .aload 8, 2), (89, .iconst 2, 1), (90, .iaload, 1), (91, .ifCond .lt 6, 3), (94, .goto 63, 3), (97, .iconst 5, 1), (98, .istore 9, 2), (100, .iload 9, 2), (102, .bipush 6, 2), (104, .if_icmp .gt 53, 3), (107, .aload 8, 2), (109, .iload 9, 2), (111, .aload 8, 2), (113, .iload 9, 2), (115, .iaload, 1), (116, .iload_n 1, 1), (117, .if_icmp .gt 11, 3), (120, .aload 8, 2), (122, .iload 9, 2), (124, .iaload, 1), (125, .goto 25, 3), (128, .aload 8, 2), (130, .iload 9, 2), (132, .iaload, 1), (133, .iload_n 1, 1), (134, .iload_n 2, 1), (135, .iadd, 1), (136, .if_icmp .lt 13, 3), (139, .aload 8, 2), (141, .iload 9, 2), (143, .iaload, 1), (144, .iload_n 2, 1)]
theorem dk_97_1 : ∀ q ∈ dl_97_1, decode (mCod (MdP 97)) q.1 = .ok q.2 := by
  rw [show mCod (MdP 97) = cX6_cut from rfl]
  decide +kernel
def dl_97_2 : List (Nat × Instr × Nat) := [(145, .isub, 1), (146, .goto 4, 3), (149, .iload_n 1, 1), (150, .iastore, 1), (151, .iinc 9 1, 3), (154, .goto (-54), 3), (157, .iinc 7 1, 3), (160, .goto (-87), 3), (163, .return_, 1)]
theorem dk_97_2 : ∀ q ∈ dl_97_2, decode (mCod (MdP 97)) q.1 = .ok q.2 := by
  rw [show mCod (MdP 97) = cX6_cut from rfl]
  decide +kernel
def tb_97_0 : List (Nat × Op1) := [(0, oLdR 0 1), (1, oCallV 92 0 1 7 []), (4, oStR 3 1), (5, oLdR 3 1), (6, oALen 14), (7, oLdI 2 1), (8, oSub), (9, oNewA 14 3), (12, oStR 4 2), (14, oCI 0 1), (15, oStI 5 2), (17, oLdI 5 2), (19, oLdR 4 2), (21, oALen 14), (22, oCge 53), (25, oLdR 4 2), (27, oLdI 5 2), (29, oLdR 3 1), (30, oLdI 5 2), (32, oLdI 1 1), (33, oCge 41), (36, oLdI 5 2), (38, oGoto 45), (41, oLdI 5 2), (43, oLdI 2 1), (44, oAdd), (45, oALdR 14), (46, oAStR 14 10), (47, oInc 5 1), (50, oGoto 17), (53, oLdR 0 1), (54, oLdR 4 2), (56, oCallV 93 1 3 7 []), (59, oLdR 0 1), (60, oGetR 7 6), (63, oStR 5 2)]
theorem sm_97_0 : ∀ q ∈ tb_97_0, SM GwP MdP D A l 97 q.1 q.2 :=
  List.forall_mem_cons.mpr ⟨sd_oLdR_n 97 0 0 0 rfl (dk_97_0 (0, .aload_n 0, 1) (List.mem_of_getElem? (i := 0) rfl)),
  List.forall_mem_cons.mpr ⟨sd_callV 97 1 92 0 1 68 7 [] (gdV hws_97 hws_92 zw368 zw369 zw370 zw362 zw367) hws_92 rfl (by decide +kernel) rfl rfl ⟨by decide +kernel, by decide +kernel, by decide +kernel⟩ ⟨by decide, by decide⟩ (catch_nil rfl) RX6 rfl TX6 8 rfl ⟨by decide, by decide⟩ (dk_97_0 (1, .invokevirtual 68, 3) (List.mem_of_getElem? (i := 1) rfl)),
  List.forall_mem_cons.mpr ⟨sd_oStR_n 97 4 3 3 rfl (by decide) (dk_97_0 (4, .astore_n 3, 1) (List.mem_of_getElem? (i := 2) rfl)),
  List.forall_mem_cons.mpr ⟨sd_oLdR_n 97 5 3 3 rfl (dk_97_0 (5, .aload_n 3, 1) (List.mem_of_getElem? (i := 3) rfl)),
  List.forall_mem_cons.mpr ⟨sd_alen 97 6 14 ⟨by decide, by decide⟩ (dk_97_0 (6, .arraylength, 1) (List.mem_of_getElem? (i := 4) rfl)),
  List.forall_mem_cons.mpr ⟨sd_oLdI_n 97 7 2 2 rfl (dk_97_0 (7, .iload_n 2, 1) (List.mem_of_getElem? (i := 5) rfl)),
  List.forall_mem_cons.mpr ⟨sd_isub 97 8 (dk_97_0 (8, .isub, 1) (List.mem_of_getElem? (i := 6) rfl)),
  List.forall_mem_cons.mpr ⟨sd_newR 97 9 14 25 "[I" (Or.inr (Or.inl ⟨rfl, rfl⟩)) (iw_97 _ zw342) (dk_97_0 (9, .anewarray 25, 3) (List.mem_of_getElem? (i := 7) rfl)),
  List.forall_mem_cons.mpr ⟨sd_oStR 97 12 4 (by decide) (dk_97_0 (12, .astore 4, 2) (List.mem_of_getElem? (i := 8) rfl)),
  List.forall_mem_cons.mpr ⟨sd_iconst 97 14 0 ⟨by decide, by decide⟩ (dk_97_0 (14, .iconst 0, 1) (List.mem_of_getElem? (i := 9) rfl)),
  List.forall_mem_cons.mpr ⟨sd_oStI 97 15 5 (by decide) (dk_97_0 (15, .istore 5, 2) (List.mem_of_getElem? (i := 10) rfl)),
  List.forall_mem_cons.mpr ⟨sd_oLdI 97 17 5 (dk_97_0 (17, .iload 5, 2) (List.mem_of_getElem? (i := 11) rfl)),
  List.forall_mem_cons.mpr ⟨sd_oLdR 97 19 4 (dk_97_0 (19, .aload 4, 2) (List.mem_of_getElem? (i := 12) rfl)),
  List.forall_mem_cons.mpr ⟨sd_alen 97 21 14 ⟨by decide, by decide⟩ (dk_97_0 (21, .arraylength, 1) (List.mem_of_getElem? (i := 13) rfl)),
  List.forall_mem_cons.mpr ⟨sd_icmp_ge 97 22 31 53 (by decide) (dk_97_0 (22, .if_icmp .ge 31, 3) (List.mem_of_getElem? (i := 14) rfl)),
  List.forall_mem_cons.mpr ⟨sd_oLdR 97 25 4 (dk_97_0 (25, .aload 4, 2) (List.mem_of_getElem? (i := 15) rfl)),
  List.forall_mem_cons.mpr ⟨sd_oLdI 97 27 5 (dk_97_0 (27, .iload 5, 2) (List.mem_of_getElem? (i := 16) rfl)),
  List.forall_mem_cons.mpr ⟨sd_oLdR_n 97 29 3 3 rfl (dk_97_0 (29, .aload_n 3, 1) (List.mem_of_getElem? (i := 17) rfl)),
  List.forall_mem_cons.mpr ⟨sd_oLdI 97 30 5 (dk_97_0 (30, .iload 5, 2) (List.mem_of_getElem? (i := 18) rfl)),
  List.forall_mem_cons.mpr ⟨sd_oLdI_n 97 32 1 1 rfl (dk_97_0 (32, .iload_n 1, 1) (List.mem_of_getElem? (i := 19) rfl)),
  List.forall_mem_cons.mpr ⟨sd_icmp_ge 97 33 8 41 (by decide) (dk_97_0 (33, .if_icmp .ge 8, 3) (List.mem_of_getElem? (i := 20) rfl)),
  List.forall_mem_cons.mpr ⟨sd_oLdI 97 36 5 (dk_97_0 (36, .iload 5, 2) (List.mem_of_getElem? (i := 21) rfl)),
  List.forall_mem_cons.mpr ⟨sd_goto 97 38 7 45 (by decide) (dk_97_0 (38, .goto 7, 3) (List.mem_of_getElem? (i := 22) rfl)),
  List.forall_mem_cons.mpr ⟨sd_oLdI 97 41 5 (dk_97_0 (41, .iload 5, 2) (List.mem_of_getElem? (i := 23) rfl)),
  List.forall_mem_cons.mpr ⟨sd_oLdI_n 97 43 2 2 rfl (dk_97_0 (43, .iload_n 2, 1) (List.mem_of_getElem? (i := 24) rfl)),
  List.forall_mem_cons.mpr ⟨sd_iadd 97 44 (dk_97_0 (44, .iadd, 1) (List.mem_of_getElem? (i := 25) rfl)),
  List.forall_mem_cons.mpr ⟨sd_aaldA 97 45 (dk_97_0 (45, .aaload, 1) (List.mem_of_getElem? (i := 26) rfl)),
  List.forall_mem_cons.mpr ⟨sd_aastA 97 46 (dk_97_0 (46, .aastore, 1) (List.mem_of_getElem? (i := 27) rfl)),
  List.forall_mem_cons.mpr ⟨sd_iinc 97 47 5 1 (by decide) (dk_97_0 (47, .iinc 5 1, 3) (List.mem_of_getElem? (i := 28) rfl)),
  List.forall_mem_cons.mpr ⟨sd_goto 97 50 (-33) 17 (by decide) (dk_97_0 (50, .goto (-33), 3) (List.mem_of_getElem? (i := 29) rfl)),
  List.forall_mem_cons.mpr ⟨sd_oLdR_n 97 53 0 0 rfl (dk_97_0 (53, .aload_n 0, 1) (List.mem_of_getElem? (i := 30) rfl)),
  List.forall_mem_cons.mpr ⟨sd_oLdR 97 54 4 (dk_97_0 (54, .aload 4, 2) (List.mem_of_getElem? (i := 31) rfl)),
  List.forall_mem_cons.mpr ⟨sd_callV 97 56 93 1 3 79 7 [] (gdV hws_97 hws_93 zw376 zw377 zw378 zw362 zw375) hws_93 rfl (by decide +kernel) rfl rfl ⟨by decide +kernel, by decide +kernel, by decide +kernel⟩ ⟨by decide, by decide⟩ (catch_nil rfl) RX6 rfl TX6 8 rfl ⟨by decide, by decide⟩ (dk_97_0 (56, .invokevirtual 79, 3) (List.mem_of_getElem? (i := 32) rfl)),
  List.forall_mem_cons.mpr ⟨sd_oLdR_n 97 59 0 0 rfl (dk_97_0 (59, .aload_n 0, 1) (List.mem_of_getElem? (i := 33) rfl)),
  List.forall_mem_cons.mpr ⟨sd_oGetR 97 60 7 6 26 RX6 TX6 8 rfl ⟨by decide, by decide⟩ rfl (by decide) rfl (fun w h => iw_97 w (uz_6 w h)) rfl (iw_97 _ zw343) (dk_97_0 (60, .getfield 26, 3) (List.mem_of_getElem? (i := 34) rfl)),
  List.forall_mem_cons.mpr ⟨sd_oStR 97 63 5 (by decide) (dk_97_0 (63, .astore 5, 2) (List.mem_of_getElem? (i := 35) rfl)),
  fun _ h => nomatch h⟩⟩⟩⟩⟩⟩⟩⟩⟩⟩⟩⟩⟩⟩⟩⟩⟩⟩⟩⟩⟩⟩⟩⟩⟩⟩⟩⟩⟩⟩⟩⟩⟩⟩⟩⟩
def tb_97_1 : List (Nat × Op1) := [(65, oLdR 5 2), (67, oALen 14), (68, oStI 6 2), (70, oCI 0 1), (71, oStI 7 2), (73, oLdI 7 2), (75, oLdI 6 2), (77, oCge 163), (80, oLdR 5 2), (82, oLdI 7 2), (84, oALdR 14), (85, oStR 8 2), (87, oLdR 8 2), (89, oCI 2 1), (90, oALdI 10), (91, oZlt 97), (94, oGoto 157), (97, oCI 5 1), (98, oStI 9 2), (100, oLdI 9 2), (102, oCI 6 2), (104, oCgt 157), (107, oLdR 8 2), (109, oLdI 9 2), (111, oLdR 8 2), (113, oLdI 9 2), (115, oALdI 10), (116, oLdI 1 1), (117, oCgt 128), (120, oLdR 8 2), (122, oLdI 9 2), (124, oALdI 10), (125, oGoto 150)]
theorem sm_97_1 : ∀ q ∈ tb_97_1, SM GwP MdP D A l 97 q.1 q.2 :=
  List.forall_mem_cons.mpr ⟨sd_oLdR 97 65 5 (dk_97_0 (65, .aload 5, 2) (List.mem_of_getElem? (i := 36) rfl)),
  List.forall_mem_cons.mpr ⟨sd_alen 97 67 14 ⟨by decide, by decide⟩ (dk_97_0 (67, .arraylength, 1) (List.mem_of_getElem? (i := 37) rfl)),
  List.forall_mem_cons.mpr ⟨sd_oStI 97 68 6 (by decide) (dk_97_0 (68, .istore 6, 2) (List.mem_of_getElem? (i := 38) rfl)),
  List.forall_mem_cons.mpr ⟨sd_iconst 97 70 0 ⟨by decide, by decide⟩ (dk_97_0 (70, .iconst 0, 1) (List.mem_of_getElem? (i := 39) rfl)),
  List.forall_mem_cons.mpr ⟨sd_oStI 97 71 7 (by decide) (dk_97_1 (71, .istore 7, 2) (List.mem_of_getElem? (i := 0) rfl)),
  List.forall_mem_cons.mpr ⟨sd_oLdI 97 73 7 (dk_97_1 (73, .iload 7, 2) (List.mem_of_getElem? (i := 1) rfl)),
  List.forall_mem_cons.mpr ⟨sd_oLdI 97 75 6 (dk_97_1 (75, .iload 6, 2) (List.mem_of_getElem? (i := 2) rfl)),
  List.forall_mem_cons.mpr ⟨sd_icmp_ge 97 77 86 163 (by decide) (dk_97_1 (77, .if_icmp .ge 86, 3) (List.mem_of_getElem? (i := 3) rfl)),
  List.forall_mem_cons.mpr ⟨sd_oLdR 97 80 5 (dk_97_1 (80, .aload 5, 2) (List.mem_of_getElem? (i := 4) rfl)),
  List.forall_mem_cons.mpr ⟨sd_oLdI 97 82 7 (dk_97_1 (82, .iload 7, 2) (List.mem_of_getElem? (i := 5) rfl)),
  List.forall_mem_cons.mpr ⟨sd_aaldA 97 84 (dk_97_1 (84, .aaload, 1) (List.mem_of_getElem? (i := 6) rfl)),
  List.forall_mem_cons.mpr ⟨sd_oStR 97 85 8 (by decide) (dk_97_1 (85, .astore 8, 2) (List.mem_of_getElem? (i := 7) rfl)),
  List.forall_mem_cons.mpr ⟨sd_oLdR 97 87 8 (dk_97_1 (87, .aload 8, 2) (List.mem_of_getElem? (i := 8) rfl)),
  List.forall_mem_cons.mpr ⟨sd_iconst 97 89 2 ⟨by decide, by decide⟩ (dk_97_1 (89, .iconst 2, 1) (List.mem_of_getElem? (i := 9) rfl)),
  List.forall_mem_cons.mpr ⟨sd_iald 97 90 (dk_97_1 (90, .iaload, 1) (List.mem_of_getElem? (i := 10) rfl)),
  List.forall_mem_cons.mpr ⟨sd_if_lt 97 91 6 97 (by decide) (dk_97_1 (91, .ifCond .lt 6, 3) (List.mem_of_getElem? (i := 11) rfl)),
  List.forall_mem_cons.mpr ⟨sd_goto 97 94 63 157 (by decide) (dk_97_1 (94, .goto 63, 3) (List.mem_of_getElem? (i := 12) rfl)),
  List.forall_mem_cons.mpr ⟨sd_iconst 97 97 5 ⟨by decide, by decide⟩ (dk_97_1 (97, .iconst 5, 1) (List.mem_of_getElem? (i := 13) rfl)),
  List.forall_mem_cons.mpr ⟨sd_oStI 97 98 9 (by decide) (dk_97_1 (98, .istore 9, 2) (List.mem_of_getElem? (i := 14) rfl)),
  List.forall_mem_cons.mpr ⟨sd_oLdI 97 100 9 (dk_97_1 (100, .iload 9, 2) (List.mem_of_getElem? (i := 15) rfl)),
  List.forall_mem_cons.mpr ⟨sd_bipush 97 102 6 ⟨by decide, by decide⟩ (by decide) (dk_97_1 (102, .bipush 6, 2) (List.mem_of_getElem? (i := 16) rfl)),
  List.forall_mem_cons.mpr ⟨sd_icmp_gt 97 104 53 157 (by decide) (dk_97_1 (104, .if_icmp .gt 53, 3) (List.mem_of_getElem? (i := 17) rfl)),
  List.forall_mem_cons.mpr ⟨sd_oLdR 97 107 8 (dk_97_1 (107, .aload 8, 2) (List.mem_of_getElem? (i := 18) rfl)),
  List.forall_mem_cons.mpr ⟨sd_oLdI 97 109 9 (dk_97_1 (109, .iload 9, 2) (List.mem_of_getElem? (i := 19) rfl)),
  List.forall_mem_cons.mpr ⟨sd_oLdR 97 111 8 (dk_97_1 (111, .aload 8, 2) (List.mem_of_getElem? (i := 20) rfl)),
  List.forall_mem_cons.mpr ⟨sd_oLdI 97 113 9 (dk_97_1 (113, .iload 9, 2) (List.mem_of_getElem? (i := 21) rfl)),
  List.forall_mem_cons.mpr ⟨sd_iald 97 115 (dk_97_1 (115, .iaload, 1) (List.mem_of_getElem? (i := 22) rfl)),
  List.forall_mem_cons.mpr ⟨sd_oLdI_n 97 116 1 1 rfl (dk_97_1 (116, .iload_n 1, 1) (List.mem_of_getElem? (i := 23) rfl)),
  List.forall_mem_cons.mpr ⟨sd_icmp_gt 97 117 11 128 (by decide) (dk_97_1 (117, .if_icmp .gt 11, 3) (List.mem_of_getElem? (i := 24) rfl)),
  List.forall_mem_cons.mpr ⟨sd_oLdR 97 120 8 (dk_97_1 (120, .aload 8, 2) (List.mem_of_getElem? (i := 25) rfl)),
  List.forall_mem_cons.mpr ⟨sd_oLdI 97 122 9 (dk_97_1 (122, .iload 9, 2) (List.mem_of_getElem? (i := 26) rfl)),
  List.forall_mem_cons.mpr ⟨sd_iald 97 124 (dk_97_1 (124, .iaload, 1) (List.mem_of_getElem? (i := 27) rfl)),
  List.forall_mem_cons.mpr ⟨sd_goto 97 125 25 150 (by decide) (dk_97_1 (125, .goto 25, 3) (List.mem_of_getElem? (i := 28) rfl)),
  fun _ h => nomatch h⟩⟩⟩⟩⟩⟩⟩⟩⟩⟩⟩⟩⟩⟩⟩⟩⟩⟩⟩⟩⟩⟩⟩⟩⟩⟩⟩⟩⟩⟩⟩⟩⟩
def tb_97_2 : List (Nat × Op1) := [(128, oLdR 8 2), (130, oLdI 9 2), (132, oALdI 10), (133, oLdI 1 1), (134, oLdI 2 1), (135, oAdd), (136, oClt 149), (139, oLdR 8 2), (141, oLdI 9 2), (143, oALdI 10), (144, oLdI 2 1), (145, oSub), (146, oGoto 150), (149, oLdI 1 1), (150, oAStI), (151, oInc 9 1), (154, oGoto 100), (157, oInc 7 1), (160, oGoto 73), (163, oRetV)]
theorem sm_97_2 : ∀ q ∈ tb_97_2, SM GwP MdP D A l 97 q.1 q.2 :=
  List.forall_mem_cons.mpr ⟨sd_oLdR 97 128 8 (dk_97_1 (128, .aload 8, 2) (List.mem_of_getElem? (i := 29) rfl)),
  List.forall_mem_cons.mpr ⟨sd_oLdI 97 130 9 (dk_97_1 (130, .iload 9, 2) (List.mem_of_getElem? (i := 30) rfl)),
  List.forall_mem_cons.mpr ⟨sd_iald 97 132 (dk_97_1 (132, .iaload, 1) (List.mem_of_getElem? (i := 31) rfl)),
  List.forall_mem_cons.mpr ⟨sd_oLdI_n 97 133 1 1 rfl (dk_97_1 (133, .iload_n 1, 1) (List.mem_of_getElem? (i := 32) rfl)),
  List.forall_mem_cons.mpr ⟨sd_oLdI_n 97 134 2 2 rfl (dk_97_1 (134, .iload_n 2, 1) (List.mem_of_getElem? (i := 33) rfl)),
  List.forall_mem_cons.mpr ⟨sd_iadd 97 135 (dk_97_1 (135, .iadd, 1) (List.mem_of_getElem? (i := 34) rfl)),
  List.forall_mem_cons.mpr ⟨sd_icmp_lt 97 136 13 149 (by decide) (dk_97_1 (136, .if_icmp .lt 13, 3) (List.mem_of_getElem? (i := 35) rfl)),
  List.forall_mem_cons.mpr ⟨sd_oLdR 97 139 8 (dk_97_1 (139, .aload 8, 2) (List.mem_of_getElem? (i := 36) rfl)),
  List.forall_mem_cons.mpr ⟨sd_oLdI 97 141 9 (dk_97_1 (141, .iload 9, 2) (List.mem_of_getElem? (i := 37) rfl)),
  List.forall_mem_cons.mpr ⟨sd_iald 97 143 (dk_97_1 (143, .iaload, 1) (List.mem_of_getElem? (i := 38) rfl)),
  List.forall_mem_cons.mpr ⟨sd_oLdI_n 97 144 2 2 rfl (dk_97_1 (144, .iload_n 2, 1) (List.mem_of_getElem? (i := 39) rfl)),
  List.forall_mem_cons.mpr ⟨sd_isub 97 145 (dk_97_2 (145, .isub, 1) (List.mem_of_getElem? (i := 0) rfl)),
  List.forall_mem_cons.mpr ⟨sd_goto 97 146 4 150 (by decide) (dk_97_2 (146, .goto 4, 3) (List.mem_of_getElem? (i := 1) rfl)),
  List.forall_mem_cons.mpr ⟨sd_oLdI_n 97 149 1 1 rfl (dk_97_2 (149, .iload_n 1, 1) (List.mem_of_getElem? (i := 2) rfl)),
  List.forall_mem_cons.mpr ⟨sd_iast 97 150 (dk_97_2 (150, .iastore, 1) (List.mem_of_getElem? (i := 3) rfl)),
  List.forall_mem_cons.mpr ⟨sd_iinc 97 151 9 1 (by decide) (dk_97_2 (151, .iinc 9 1, 3) (List.mem_of_getElem? (i := 4) rfl)),
  List.forall_mem_cons.mpr ⟨sd_goto 97 154 (-54) 100 (by decide) (dk_97_2 (154, .goto (-54), 3) (List.mem_of_getElem? (i := 5) rfl)),
  List.forall_mem_cons.mpr ⟨sd_iinc 97 157 7 1 (by decide) (dk_97_2 (157, .iinc 7 1, 3) (List.mem_of_getElem? (i := 6) rfl)),
  List.forall_mem_cons.mpr ⟨sd_goto 97 160 (-87) 73 (by decide) (dk_97_2 (160, .goto (-87), 3) (List.mem_of_getElem? (i := 7) rfl)),
  List.forall_mem_cons.mpr ⟨sd_vret 97 163 rfl (dk_97_2 (163, .return_, 1) (List.mem_of_getElem? (i := 8) rfl)),
  fun _ h => nomatch h⟩⟩⟩⟩⟩⟩⟩⟩⟩⟩⟩⟩⟩⟩⟩⟩⟩⟩⟩⟩
def tb_97 : List (List (Nat × Op1)) := [tb_97_0, tb_97_1, tb_97_2]
theorem sm_97 : ∀ t ∈ tb_97, ∀ q ∈ t, SM GwP MdP D A l 97 q.1 q.2 := List.forall_mem_cons.mpr ⟨sm_97_0, List.forall_mem_cons.mpr ⟨sm_97_1, List.forall_mem_cons.mpr ⟨sm_97_2, fun _ h => nomatch h⟩⟩⟩
-- 98: MarginaliaLaw$Page.insert()Z
def dl_98_0 : List (Nat × Instr × Nat) := [(0, .aload_n 0, 1), (1, .aload_n 0, 1), (2, .getfield 16, 3), (5, .arraylength, 1), (6, .invokevirtual 61, 3), (9, .istore_n 1, 1), (10, .iconst 1, 1), (11, .aload_n 0, 1), (12, .bipush 8, 2), (14, .invokevirtual 61, 3), (17, .iadd, 1), (18, .istore_n 2, 1), (19, .aload_n 0, 1), (20, .aload_n 0, 1), (21, .invokevirtual 68, 3), (24, .arraylength, 1), (25, .iconst 1, 1), (26, .iadd, 1), (27, .invokevirtual 61, 3), (30, .istore_n 3, 1), (31, .aload_n 0, 1), (32, .iconst 5, 1), (33, .invokevirtual 61, 3), (36, .ifCond .ne 12, 3), (39, .aload_n 0, 1), (40, .bipush 26, 2), (42, .invokevirtual 61, 3), (45, .goto 8, 3), (48, .aload_n 0, 1), (49, .iconst 4, 1), (50, .invokevirtual 61, 3), (53, .istore 4, 2), (55, .aload_n 0, 1), (56, .getfield 16, 3), (59, .iload_n 1, 1), (60, .iaload, 1), (61, .iconst 3, 1), (62, .if_icmp .lt 30, 3), (65, .aload_n 0, 1), (66, .invokevirtual 68, 3)]
theorem dk_98_0 : ∀ q ∈ dl_98_0, decode (mCod (MdP 98)) q.1 = .ok q.2 := by
  rw [show mCod (MdP 98) = cX6_insert from rfl]
  decide +kernel
def dl_98_1 : List (Nat × Instr × Nat) := [(69, .arraylength, 1), (70, .iload_n 2, 1), (71, .iadd, 1), (72, .sipush 200, 3), (75, .if_icmp .gt 17, 3), (78, .aload_n 0, 1), (79, .getfield 22, 3), (82, .arraylength, 1), (83, .bipush 60, 2), (85, .if_icmp .gt 7, 3), (88, .iconst 1, 1), (89, .goto 4, 3), (92, .iconst 0, 1), (93, .istore 5, 2), (95, .aload_n 0, 1), (96, .getfield 10, 3), (99, .iload_n 1, 1), (100, .iload_n 3, 1), (101, .iload_n 2, 1), (102, .iload 4, 2), (104, .invokevirtual 83, 3), (107, .istore 6, 2), (109, .iload 5, 2), (111, .ifCond .ne 5, 3), (114, .iconst 0, 1), (115, .ireturn, 1), (116, .aload_n 0, 1), (117, .iload_n 3, 1), (118, .iload_n 2, 1), (119, .iload 4, 2), (121, .invokevirtual 87, 3), (124, .iload 6, 2), (126, .aload_n 0, 1), (127, .invokevirtual 68, 3), (130, .arraylength, 1), (131, .if_icmp .ne 7, 3), (134, .iconst 1, 1), (135, .goto 4, 3), (138, .iconst 0, 1), (139, .ireturn, 1)]
theorem dk_98_1 : ∀ q ∈ dl_98_1, decode (mCod (MdP 98)) q.1 = .ok q.2 := by
  rw [show mCod (MdP 98) = cX6_insert from rfl]
  decide +kernel
def dl_98_2 : List (Nat × Instr × Nat) := [(140, .astore 6, 2), (142, .iload 5, 2), (144, .ifCond .ne 7, 3), (147, .iconst 1, 1), (148, .goto 4, 3), (151, .iconst 0, 1), (152, .ireturn, 1)]
theorem dk_98_2 : ∀ q ∈ dl_98_2, decode (mCod (MdP 98)) q.1 = .ok q.2 := by
  rw [show mCod (MdP 98) = cX6_insert from rfl]
  decide +kernel
def tb_98_0 : List (Nat × Op1) := [(0, oLdR 0 1), (1, oLdR 0 1), (2, oGetR 7 3), (5, oALen 10), (6, oCallV 90 1 3 7 []), (9, oStI 1 1), (10, oCI 1 1), (11, oLdR 0 1), (12, oCI 8 2), (14, oCallV 90 1 3 7 []), (17, oAdd), (18, oStI 2 1), (19, oLdR 0 1), (20, oLdR 0 1), (21, oCallV 92 0 1 7 []), (24, oALen 14), (25, oCI 1 1), (26, oAdd), (27, oCallV 90 1 3 7 []), (30, oStI 3 1), (31, oLdR 0 1), (32, oCI 5 1), (33, oCallV 90 1 3 7 []), (36, oZne 48), (39, oLdR 0 1), (40, oCI 26 2), (42, oCallV 90 1 3 7 []), (45, oGoto 53), (48, oLdR 0 1), (49, oCI 4 1), (50, oCallV 90 1 3 7 []), (53, oStI 4 2), (55, oLdR 0 1), (56, oGetR 7 3), (59, oLdI 1 1), (60, oALdI 10), (61, oCI 3 1), (62, oClt 92)]
theorem sm_98_0 : ∀ q ∈ tb_98_0, SM GwP MdP D A l 98 q.1 q.2 :=
  List.forall_mem_cons.mpr ⟨sd_oLdR_n 98 0 0 0 rfl (dk_98_0 (0, .aload_n 0, 1) (List.mem_of_getElem? (i := 0) rfl)),
  List.forall_mem_cons.mpr ⟨sd_oLdR_n 98 1 0 0 rfl (dk_98_0 (1, .aload_n 0, 1) (List.mem_of_getElem? (i := 1) rfl)),
  List.forall_mem_cons.mpr ⟨sd_oGetR 98 2 7 3 16 RX6 TX6 8 rfl ⟨by decide, by decide⟩ rfl (by decide) rfl (fun w h => iw_98 w (uz_6 w h)) rfl (iw_98 _ zw339) (dk_98_0 (2, .getfield 16, 3) (List.mem_of_getElem? (i := 2) rfl)),
  List.forall_mem_cons.mpr ⟨sd_alen 98 5 10 ⟨by decide, by decide⟩ (dk_98_0 (5, .arraylength, 1) (List.mem_of_getElem? (i := 3) rfl)),
  List.forall_mem_cons.mpr ⟨sd_callV 98 6 90 1 3 61 7 [] (gdV hws_98 hws_90 zw359 zw360 zw361 zw362 zw358) hws_90 rfl (by decide +kernel) rfl rfl ⟨by decide +kernel, by decide +kernel, by decide +kernel⟩ ⟨by decide, by decide⟩ (catch_of (fun _ => by decide +kernel) (fun _ h => nomatch h)) RX6 rfl TX6 8 rfl ⟨by decide, by decide⟩ (dk_98_0 (6, .invokevirtual 61, 3) (List.mem_of_getElem? (i := 4) rfl)),
  List.forall_mem_cons.mpr ⟨sd_oStI_n 98 9 1 1 rfl (by decide) (dk_98_0 (9, .istore_n 1, 1) (List.mem_of_getElem? (i := 5) rfl)),
  List.forall_mem_cons.mpr ⟨sd_iconst 98 10 1 ⟨by decide, by decide⟩ (dk_98_0 (10, .iconst 1, 1) (List.mem_of_getElem? (i := 6) rfl)),
  List.forall_mem_cons.mpr ⟨sd_oLdR_n 98 11 0 0 rfl (dk_98_0 (11, .aload_n 0, 1) (List.mem_of_getElem? (i := 7) rfl)),
  List.forall_mem_cons.mpr ⟨sd_bipush 98 12 8 ⟨by decide, by decide⟩ (by decide) (dk_98_0 (12, .bipush 8, 2) (List.mem_of_getElem? (i := 8) rfl)),
  List.forall_mem_cons.mpr ⟨sd_callV 98 14 90 1 3 61 7 [] (gdV hws_98 hws_90 zw359 zw360 zw361 zw362 zw358) hws_90 rfl (by decide +kernel) rfl rfl ⟨by decide +kernel, by decide +kernel, by decide +kernel⟩ ⟨by decide, by decide⟩ (catch_of (fun _ => by decide +kernel) (fun _ h => nomatch h)) RX6 rfl TX6 8 rfl ⟨by decide, by decide⟩ (dk_98_0 (14, .invokevirtual 61, 3) (List.mem_of_getElem? (i := 9) rfl)),
  List.forall_mem_cons.mpr ⟨sd_iadd 98 17 (dk_98_0 (17, .iadd, 1) (List.mem_of_getElem? (i := 10) rfl)),
  List.forall_mem_cons.mpr ⟨sd_oStI_n 98 18 2 2 rfl (by decide) (dk_98_0 (18, .istore_n 2, 1) (List.mem_of_getElem? (i := 11) rfl)),
  List.forall_mem_cons.mpr ⟨sd_oLdR_n 98 19 0 0 rfl (dk_98_0 (19, .aload_n 0, 1) (List.mem_of_getElem? (i := 12) rfl)),
  List.forall_mem_cons.mpr ⟨sd_oLdR_n 98 20 0 0 rfl (dk_98_0 (20, .aload_n 0, 1) (List.mem_of_getElem? (i := 13) rfl)),
  List.forall_mem_cons.mpr ⟨sd_callV 98 21 92 0 1 68 7 [] (gdV hws_98 hws_92 zw368 zw369 zw370 zw362 zw367) hws_92 rfl (by decide +kernel) rfl rfl ⟨by decide +kernel, by decide +kernel, by decide +kernel⟩ ⟨by decide, by decide⟩ (catch_of (fun _ => by decide +kernel) (fun _ h => nomatch h)) RX6 rfl TX6 8 rfl ⟨by decide, by decide⟩ (dk_98_0 (21, .invokevirtual 68, 3) (List.mem_of_getElem? (i := 14) rfl)),
  List.forall_mem_cons.mpr ⟨sd_alen 98 24 14 ⟨by decide, by decide⟩ (dk_98_0 (24, .arraylength, 1) (List.mem_of_getElem? (i := 15) rfl)),
  List.forall_mem_cons.mpr ⟨sd_iconst 98 25 1 ⟨by decide, by decide⟩ (dk_98_0 (25, .iconst 1, 1) (List.mem_of_getElem? (i := 16) rfl)),
  List.forall_mem_cons.mpr ⟨sd_iadd 98 26 (dk_98_0 (26, .iadd, 1) (List.mem_of_getElem? (i := 17) rfl)),
  List.forall_mem_cons.mpr ⟨sd_callV 98 27 90 1 3 61 7 [] (gdV hws_98 hws_90 zw359 zw360 zw361 zw362 zw358) hws_90 rfl (by decide +kernel) rfl rfl ⟨by decide +kernel, by decide +kernel, by decide +kernel⟩ ⟨by decide, by decide⟩ (catch_of (fun _ => by decide +kernel) (fun _ h => nomatch h)) RX6 rfl TX6 8 rfl ⟨by decide, by decide⟩ (dk_98_0 (27, .invokevirtual 61, 3) (List.mem_of_getElem? (i := 18) rfl)),
  List.forall_mem_cons.mpr ⟨sd_oStI_n 98 30 3 3 rfl (by decide) (dk_98_0 (30, .istore_n 3, 1) (List.mem_of_getElem? (i := 19) rfl)),
  List.forall_mem_cons.mpr ⟨sd_oLdR_n 98 31 0 0 rfl (dk_98_0 (31, .aload_n 0, 1) (List.mem_of_getElem? (i := 20) rfl)),
  List.forall_mem_cons.mpr ⟨sd_iconst 98 32 5 ⟨by decide, by decide⟩ (dk_98_0 (32, .iconst 5, 1) (List.mem_of_getElem? (i := 21) rfl)),
  List.forall_mem_cons.mpr ⟨sd_callV 98 33 90 1 3 61 7 [] (gdV hws_98 hws_90 zw359 zw360 zw361 zw362 zw358) hws_90 rfl (by decide +kernel) rfl rfl ⟨by decide +kernel, by decide +kernel, by decide +kernel⟩ ⟨by decide, by decide⟩ (catch_of (fun _ => by decide +kernel) (fun _ h => nomatch h)) RX6 rfl TX6 8 rfl ⟨by decide, by decide⟩ (dk_98_0 (33, .invokevirtual 61, 3) (List.mem_of_getElem? (i := 22) rfl)),
  List.forall_mem_cons.mpr ⟨sd_if_ne 98 36 12 48 (by decide) (dk_98_0 (36, .ifCond .ne 12, 3) (List.mem_of_getElem? (i := 23) rfl)),
  List.forall_mem_cons.mpr ⟨sd_oLdR_n 98 39 0 0 rfl (dk_98_0 (39, .aload_n 0, 1) (List.mem_of_getElem? (i := 24) rfl)),
  List.forall_mem_cons.mpr ⟨sd_bipush 98 40 26 ⟨by decide, by decide⟩ (by decide) (dk_98_0 (40, .bipush 26, 2) (List.mem_of_getElem? (i := 25) rfl)),
  List.forall_mem_cons.mpr ⟨sd_callV 98 42 90 1 3 61 7 [] (gdV hws_98 hws_90 zw359 zw360 zw361 zw362 zw358) hws_90 rfl (by decide +kernel) rfl rfl ⟨by decide +kernel, by decide +kernel, by decide +kernel⟩ ⟨by decide, by decide⟩ (catch_of (fun _ => by decide +kernel) (fun _ h => nomatch h)) RX6 rfl TX6 8 rfl ⟨by decide, by decide⟩ (dk_98_0 (42, .invokevirtual 61, 3) (List.mem_of_getElem? (i := 26) rfl)),
  List.forall_mem_cons.mpr ⟨sd_goto 98 45 8 53 (by decide) (dk_98_0 (45, .goto 8, 3) (List.mem_of_getElem? (i := 27) rfl)),
  List.forall_mem_cons.mpr ⟨sd_oLdR_n 98 48 0 0 rfl (dk_98_0 (48, .aload_n 0, 1) (List.mem_of_getElem? (i := 28) rfl)),
  List.forall_mem_cons.mpr ⟨sd_iconst 98 49 4 ⟨by decide, by decide⟩ (dk_98_0 (49, .iconst 4, 1) (List.mem_of_getElem? (i := 29) rfl)),
  List.forall_mem_cons.mpr ⟨sd_callV 98 50 90 1 3 61 7 [] (gdV hws_98 hws_90 zw359 zw360 zw361 zw362 zw358) hws_90 rfl (by decide +kernel) rfl rfl ⟨by decide +kernel, by decide +kernel, by decide +kernel⟩ ⟨by decide, by decide⟩ (catch_of (fun _ => by decide +kernel) (fun _ h => nomatch h)) RX6 rfl TX6 8 rfl ⟨by decide, by decide⟩ (dk_98_0 (50, .invokevirtual 61, 3) (List.mem_of_getElem? (i := 30) rfl)),
  List.forall_mem_cons.mpr ⟨sd_oStI 98 53 4 (by decide) (dk_98_0 (53, .istore 4, 2) (List.mem_of_getElem? (i := 31) rfl)),
  List.forall_mem_cons.mpr ⟨sd_oLdR_n 98 55 0 0 rfl (dk_98_0 (55, .aload_n 0, 1) (List.mem_of_getElem? (i := 32) rfl)),
  List.forall_mem_cons.mpr ⟨sd_oGetR 98 56 7 3 16 RX6 TX6 8 rfl ⟨by decide, by decide⟩ rfl (by decide) rfl (fun w h => iw_98 w (uz_6 w h)) rfl (iw_98 _ zw339) (dk_98_0 (56, .getfield 16, 3) (List.mem_of_getElem? (i := 33) rfl)),
  List.forall_mem_cons.mpr ⟨sd_oLdI_n 98 59 1 1 rfl (dk_98_0 (59, .iload_n 1, 1) (List.mem_of_getElem? (i := 34) rfl)),
  List.forall_mem_cons.mpr ⟨sd_iald 98 60 (dk_98_0 (60, .iaload, 1) (List.mem_of_getElem? (i := 35) rfl)),
  List.forall_mem_cons.mpr ⟨sd_iconst 98 61 3 ⟨by decide, by decide⟩ (dk_98_0 (61, .iconst 3, 1) (List.mem_of_getElem? (i := 36) rfl)),
  List.forall_mem_cons.mpr ⟨sd_icmp_lt 98 62 30 92 (by decide) (dk_98_0 (62, .if_icmp .lt 30, 3) (List.mem_of_getElem? (i := 37) rfl)),
  fun _ h => nomatch h⟩⟩⟩⟩⟩⟩⟩⟩⟩⟩⟩⟩⟩⟩⟩⟩⟩⟩⟩⟩⟩⟩⟩⟩⟩⟩⟩⟩⟩⟩⟩⟩⟩⟩⟩⟩⟩⟩
def tb_98_1 : List (Nat × Op1) := [(65, oLdR 0 1), (66, oCallV 92 0 1 7 []), (69, oALen 14), (70, oLdI 2 1), (71, oAdd), (72, oCI 200 3), (75, oCgt 92), (78, oLdR 0 1), (79, oGetR 7 5), (82, oALen 16), (83, oCI 60 2), (85, oCgt 92), (88, oCI 1 1), (89, oGoto 93), (92, oCI 0 1), (93, oStI 5 2), (95, oLdR 0 1), (96, oGetR 7 0), (99, oLdI 1 1), (100, oLdI 3 1), (101, oLdI 2 1), (102, oLdI 4 2), (104, oCallV 34 4 5 6 [(2, 140)]), (107, oStI 6 2), (109, oLdI 5 2), (111, oZne 116), (114, oCI 0 1), (115, oRetZ), (116, oLdR 0 1), (117, oLdI 3 1), (118, oLdI 2 1), (119, oLdI 4 2), (121, oCallV 96 3 9 7 [(2, 140)]), (124, oLdI 6 2), (126, oLdR 0 1), (127, oCallV 92 0 1 7 [(2, 140)])]
theorem sm_98_1 : ∀ q ∈ tb_98_1, SM GwP MdP D A l 98 q.1 q.2 :=
  List.forall_mem_cons.mpr ⟨sd_oLdR_n 98 65 0 0 rfl (dk_98_0 (65, .aload_n 0, 1) (List.mem_of_getElem? (i := 38) rfl)),
  List.forall_mem_cons.mpr ⟨sd_callV 98 66 92 0 1 68 7 [] (gdV hws_98 hws_92 zw368 zw369 zw370 zw362 zw367) hws_92 rfl (by decide +kernel) rfl rfl ⟨by decide +kernel, by decide +kernel, by decide +kernel⟩ ⟨by decide, by decide⟩ (catch_of (fun _ => by decide +kernel) (fun _ h => nomatch h)) RX6 rfl TX6 8 rfl ⟨by decide, by decide⟩ (dk_98_0 (66, .invokevirtual 68, 3) (List.mem_of_getElem? (i := 39) rfl)),
  List.forall_mem_cons.mpr ⟨sd_alen 98 69 14 ⟨by decide, by decide⟩ (dk_98_1 (69, .arraylength, 1) (List.mem_of_getElem? (i := 0) rfl)),
  List.forall_mem_cons.mpr ⟨sd_oLdI_n 98 70 2 2 rfl (dk_98_1 (70, .iload_n 2, 1) (List.mem_of_getElem? (i := 1) rfl)),
  List.forall_mem_cons.mpr ⟨sd_iadd 98 71 (dk_98_1 (71, .iadd, 1) (List.mem_of_getElem? (i := 2) rfl)),
  List.forall_mem_cons.mpr ⟨sd_sipush 98 72 200 ⟨by decide, by decide⟩ (by decide) (dk_98_1 (72, .sipush 200, 3) (List.mem_of_getElem? (i := 3) rfl)),
  List.forall_mem_cons.mpr ⟨sd_icmp_gt 98 75 17 92 (by decide) (dk_98_1 (75, .if_icmp .gt 17, 3) (List.mem_of_getElem? (i := 4) rfl)),
  List.forall_mem_cons.mpr ⟨sd_oLdR_n 98 78 0 0 rfl (dk_98_1 (78, .aload_n 0, 1) (List.mem_of_getElem? (i := 5) rfl)),
  List.forall_mem_cons.mpr ⟨sd_oGetR 98 79 7 5 22 RX6 TX6 8 rfl ⟨by decide, by decide⟩ rfl (by decide) rfl (fun w h => iw_98 w (uz_6 w h)) rfl (iw_98 _ zw341) (dk_98_1 (79, .getfield 22, 3) (List.mem_of_getElem? (i := 6) rfl)),
  List.forall_mem_cons.mpr ⟨sd_alen 98 82 16 ⟨by decide, by decide⟩ (dk_98_1 (82, .arraylength, 1) (List.mem_of_getElem? (i := 7) rfl)),
  List.forall_mem_cons.mpr ⟨sd_bipush 98 83 60 ⟨by decide, by decide⟩ (by decide) (dk_98_1 (83, .bipush 60, 2) (List.mem_of_getElem? (i := 8) rfl)),
  List.forall_mem_cons.mpr ⟨sd_icmp_gt 98 85 7 92 (by decide) (dk_98_1 (85, .if_icmp .gt 7, 3) (List.mem_of_getElem? (i := 9) rfl)),
  List.forall_mem_cons.mpr ⟨sd_iconst 98 88 1 ⟨by decide, by decide⟩ (dk_98_1 (88, .iconst 1, 1) (List.mem_of_getElem? (i := 10) rfl)),
  List.forall_mem_cons.mpr ⟨sd_goto 98 89 4 93 (by decide) (dk_98_1 (89, .goto 4, 3) (List.mem_of_getElem? (i := 11) rfl)),
  List.forall_mem_cons.mpr ⟨sd_iconst 98 92 0 ⟨by decide, by decide⟩ (dk_98_1 (92, .iconst 0, 1) (List.mem_of_getElem? (i := 12) rfl)),
  List.forall_mem_cons.mpr ⟨sd_oStI 98 93 5 (by decide) (dk_98_1 (93, .istore 5, 2) (List.mem_of_getElem? (i := 13) rfl)),
  List.forall_mem_cons.mpr ⟨sd_oLdR_n 98 95 0 0 rfl (dk_98_1 (95, .aload_n 0, 1) (List.mem_of_getElem? (i := 14) rfl)),
  List.forall_mem_cons.mpr ⟨sd_oGetR 98 96 7 0 10 RX6 TX6 8 rfl ⟨by decide, by decide⟩ rfl (by decide) rfl (fun w h => iw_98 w (uz_6 w h)) rfl (iw_98 _ zw338) (dk_98_1 (96, .getfield 10, 3) (List.mem_of_getElem? (i := 15) rfl)),
  List.forall_mem_cons.mpr ⟨sd_oLdI_n 98 99 1 1 rfl (dk_98_1 (99, .iload_n 1, 1) (List.mem_of_getElem? (i := 16) rfl)),
  List.forall_mem_cons.mpr ⟨sd_oLdI_n 98 100 3 3 rfl (dk_98_1 (100, .iload_n 3, 1) (List.mem_of_getElem? (i := 17) rfl)),
  List.forall_mem_cons.mpr ⟨sd_oLdI_n 98 101 2 2 rfl (dk_98_1 (101, .iload_n 2, 1) (List.mem_of_getElem? (i := 18) rfl)),
  List.forall_mem_cons.mpr ⟨sd_oLdI 98 102 4 (dk_98_1 (102, .iload 4, 2) (List.mem_of_getElem? (i := 19) rfl)),
  List.forall_mem_cons.mpr ⟨sd_callV 98 104 34 4 5 83 6 [(2, 140)] (gdV hws_98 hws_34 zw381 zw382 zw383 zw63 zw380) hws_34 rfl (by decide +kernel) rfl rfl ⟨by decide +kernel, by decide +kernel, by decide +kernel⟩ ⟨by decide, by decide⟩ (catch_of (fun h => nomatch h) (List.forall_mem_cons.mpr ⟨⟨[], ⟨95, 115, 140, 91⟩, [⟨116, 139, 140, 91⟩], "java/lang/IllegalStateException", rfl, (fun _ h => nomatch h), by decide, by decide, (iw_98 _ zw379), List.mem_of_getElem? (i := 1) rfl, rfl⟩, (fun _ h => nomatch h)⟩)) RX5 rfl TX5 7 rfl ⟨by decide, by decide⟩ (dk_98_1 (104, .invokevirtual 83, 3) (List.mem_of_getElem? (i := 20) rfl)),
  List.forall_mem_cons.mpr ⟨sd_oStI 98 107 6 (by decide) (dk_98_1 (107, .istore 6, 2) (List.mem_of_getElem? (i := 21) rfl)),
  List.forall_mem_cons.mpr ⟨sd_oLdI 98 109 5 (dk_98_1 (109, .iload 5, 2) (List.mem_of_getElem? (i := 22) rfl)),
  List.forall_mem_cons.mpr ⟨sd_if_ne 98 111 5 116 (by decide) (dk_98_1 (111, .ifCond .ne 5, 3) (List.mem_of_getElem? (i := 23) rfl)),
  List.forall_mem_cons.mpr ⟨sd_iconst 98 114 0 ⟨by decide, by decide⟩ (dk_98_1 (114, .iconst 0, 1) (List.mem_of_getElem? (i := 24) rfl)),
  List.forall_mem_cons.mpr ⟨sd_zret 98 115 rfl (dk_98_1 (115, .ireturn, 1) (List.mem_of_getElem? (i := 25) rfl)),
  List.forall_mem_cons.mpr ⟨sd_oLdR_n 98 116 0 0 rfl (dk_98_1 (116, .aload_n 0, 1) (List.mem_of_getElem? (i := 26) rfl)),
  List.forall_mem_cons.mpr ⟨sd_oLdI_n 98 117 3 3 rfl (dk_98_1 (117, .iload_n 3, 1) (List.mem_of_getElem? (i := 27) rfl)),
  List.forall_mem_cons.mpr ⟨sd_oLdI_n 98 118 2 2 rfl (dk_98_1 (118, .iload_n 2, 1) (List.mem_of_getElem? (i := 28) rfl)),
  List.forall_mem_cons.mpr ⟨sd_oLdI 98 119 4 (dk_98_1 (119, .iload 4, 2) (List.mem_of_getElem? (i := 29) rfl)),
  List.forall_mem_cons.mpr ⟨sd_callV 98 121 96 3 9 87 7 [(2, 140)] (gdV hws_98 hws_96 zw385 zw386 zw387 zw362 zw384) hws_96 rfl (by decide +kernel) rfl rfl ⟨by decide +kernel, by decide +kernel, by decide +kernel⟩ ⟨by decide, by decide⟩ (catch_of (fun h => nomatch h) (List.forall_mem_cons.mpr ⟨⟨[⟨95, 115, 140, 91⟩], ⟨116, 139, 140, 91⟩, [], "java/lang/IllegalStateException", rfl, (List.forall_mem_cons.mpr ⟨Or.inl (by decide), (fun _ h => nomatch h)⟩), by decide, by decide, (iw_98 _ zw379), List.mem_of_getElem? (i := 1) rfl, rfl⟩, (fun _ h => nomatch h)⟩)) RX6 rfl TX6 8 rfl ⟨by decide, by decide⟩ (dk_98_1 (121, .invokevirtual 87, 3) (List.mem_of_getElem? (i := 30) rfl)),
  List.forall_mem_cons.mpr ⟨sd_oLdI 98 124 6 (dk_98_1 (124, .iload 6, 2) (List.mem_of_getElem? (i := 31) rfl)),
  List.forall_mem_cons.mpr ⟨sd_oLdR_n 98 126 0 0 rfl (dk_98_1 (126, .aload_n 0, 1) (List.mem_of_getElem? (i := 32) rfl)),
  List.forall_mem_cons.mpr ⟨sd_callV 98 127 92 0 1 68 7 [(2, 140)] (gdV hws_98 hws_92 zw368 zw369 zw370 zw362 zw367) hws_92 rfl (by decide +kernel) rfl rfl ⟨by decide +kernel, by decide +kernel, by decide +kernel⟩ ⟨by decide, by decide⟩ (catch_of (fun h => nomatch h) (List.forall_mem_cons.mpr ⟨⟨[⟨95, 115, 140, 91⟩], ⟨116, 139, 140, 91⟩, [], "java/lang/IllegalStateException", rfl, (List.forall_mem_cons.mpr ⟨Or.inl (by decide), (fun _ h => nomatch h)⟩), by decide, by decide, (iw_98 _ zw379), List.mem_of_getElem? (i := 1) rfl, rfl⟩, (fun _ h => nomatch h)⟩)) RX6 rfl TX6 8 rfl ⟨by decide, by decide⟩ (dk_98_1 (127, .invokevirtual 68, 3) (List.mem_of_getElem? (i := 33) rfl)),
  fun _ h => nomatch h⟩⟩⟩⟩⟩⟩⟩⟩⟩⟩⟩⟩⟩⟩⟩⟩⟩⟩⟩⟩⟩⟩⟩⟩⟩⟩⟩⟩⟩⟩⟩⟩⟩⟩⟩⟩
def tb_98_2 : List (Nat × Op1) := [(130, oALen 14), (131, oCne 138), (134, oCI 1 1), (135, oGoto 139), (138, oCI 0 1), (139, oRetZ), (140, oStR 6 2), (142, oLdI 5 2), (144, oZne 151), (147, oCI 1 1), (148, oGoto 152), (151, oCI 0 1), (152, oRetZ)]
theorem sm_98_2 : ∀ q ∈ tb_98_2, SM GwP MdP D A l 98 q.1 q.2 :=
  List.forall_mem_cons.mpr ⟨sd_alen 98 130 14 ⟨by decide, by decide⟩ (dk_98_1 (130, .arraylength, 1) (List.mem_of_getElem? (i := 34) rfl)),
  List.forall_mem_cons.mpr ⟨sd_icmp_ne 98 131 7 138 (by decide) (dk_98_1 (131, .if_icmp .ne 7, 3) (List.mem_of_getElem? (i := 35) rfl)),
  List.forall_mem_cons.mpr ⟨sd_iconst 98 134 1 ⟨by decide, by decide⟩ (dk_98_1 (134, .iconst 1, 1) (List.mem_of_getElem? (i := 36) rfl)),
  List.forall_mem_cons.mpr ⟨sd_goto 98 135 4 139 (by decide) (dk_98_1 (135, .goto 4, 3) (List.mem_of_getElem? (i := 37) rfl)),
  List.forall_mem_cons.mpr ⟨sd_iconst 98 138 0 ⟨by decide, by decide⟩ (dk_98_1 (138, .iconst 0, 1) (List.mem_of_getElem? (i := 38) rfl)),
  List.forall_mem_cons.mpr ⟨sd_zret 98 139 rfl (dk_98_1 (139, .ireturn, 1) (List.mem_of_getElem? (i := 39) rfl)),
  List.forall_mem_cons.mpr ⟨sd_oStR 98 140 6 (by decide) (dk_98_2 (140, .astore 6, 2) (List.mem_of_getElem? (i := 0) rfl)),
  List.forall_mem_cons.mpr ⟨sd_oLdI 98 142 5 (dk_98_2 (142, .iload 5, 2) (List.mem_of_getElem? (i := 1) rfl)),
  List.forall_mem_cons.mpr ⟨sd_if_ne 98 144 7 151 (by decide) (dk_98_2 (144, .ifCond .ne 7, 3) (List.mem_of_getElem? (i := 2) rfl)),
  List.forall_mem_cons.mpr ⟨sd_iconst 98 147 1 ⟨by decide, by decide⟩ (dk_98_2 (147, .iconst 1, 1) (List.mem_of_getElem? (i := 3) rfl)),
  List.forall_mem_cons.mpr ⟨sd_goto 98 148 4 152 (by decide) (dk_98_2 (148, .goto 4, 3) (List.mem_of_getElem? (i := 4) rfl)),
  List.forall_mem_cons.mpr ⟨sd_iconst 98 151 0 ⟨by decide, by decide⟩ (dk_98_2 (151, .iconst 0, 1) (List.mem_of_getElem? (i := 5) rfl)),
  List.forall_mem_cons.mpr ⟨sd_zret 98 152 rfl (dk_98_2 (152, .ireturn, 1) (List.mem_of_getElem? (i := 6) rfl)),
  fun _ h => nomatch h⟩⟩⟩⟩⟩⟩⟩⟩⟩⟩⟩⟩⟩
def tb_98 : List (List (Nat × Op1)) := [tb_98_0, tb_98_1, tb_98_2]
theorem sm_98 : ∀ t ∈ tb_98, ∀ q ∈ t, SM GwP MdP D A l 98 q.1 q.2 := List.forall_mem_cons.mpr ⟨sm_98_0, List.forall_mem_cons.mpr ⟨sm_98_1, List.forall_mem_cons.mpr ⟨sm_98_2, fun _ h => nomatch h⟩⟩⟩
-- 99: MarginaliaLaw$Page.delete()Z
def dl_99_0 : List (Nat × Instr × Nat) := [(0, .aload_n 0, 1), (1, .invokevirtual 68, 3), (4, .arraylength, 1), (5, .ifCond .ne 5, 3), (8, .iconst 1, 1), (9, .ireturn, 1), (10, .aload_n 0, 1), (11, .aload_n 0, 1), (12, .getfield 16, 3), (15, .arraylength, 1), (16, .invokevirtual 61, 3), (19, .istore_n 1, 1), (20, .aload_n 0, 1), (21, .aload_n 0, 1), (22, .invokevirtual 68, 3), (25, .arraylength, 1), (26, .invokevirtual 61, 3), (29, .istore_n 2, 1), (30, .iconst 1, 1), (31, .aload_n 0, 1), (32, .bipush 9, 2), (34, .aload_n 0, 1), (35, .invokevirtual 68, 3), (38, .arraylength, 1), (39, .iload_n 2, 1), (40, .isub, 1), (41, .invokestatic 93, 3), (44, .invokevirtual 61, 3), (47, .iadd, 1), (48, .istore_n 3, 1), (49, .aload_n 0, 1), (50, .getfield 16, 3), (53, .iload_n 1, 1), (54, .iaload, 1), (55, .iconst 3, 1), (56, .if_icmp .lt 17, 3), (59, .aload_n 0, 1), (60, .getfield 22, 3), (63, .arraylength, 1), (64, .bipush 60, 2)]
theorem dk_99_0 : ∀ q ∈ dl_99_0, decode (mCod (MdP 99)) q.1 = .ok q.2 := by
  rw [show mCod (MdP 99) = cX6_delete from rfl]
  decide +kernel
def dl_99_1 : List (Nat × Instr × Nat) := [(66, .if_icmp .gt 7, 3), (69, .iconst 1, 1), (70, .goto 4, 3), (73, .iconst 0, 1), (74, .istore 4, 2), (76, .aload_n 0, 1), (77, .getfield 10, 3), (80, .iload_n 1, 1), (81, .iload_n 2, 1), (82, .iload_n 3, 1), (83, .invokevirtual 98, 3), (86, .istore 5, 2), (88, .iload 4, 2), (90, .ifCond .ne 5, 3), (93, .iconst 0, 1), (94, .ireturn, 1), (95, .aload_n 0, 1), (96, .iload_n 2, 1), (97, .iload_n 3, 1), (98, .invokevirtual 101, 3), (101, .iload 5, 2), (103, .aload_n 0, 1), (104, .invokevirtual 68, 3), (107, .arraylength, 1), (108, .if_icmp .ne 7, 3), (111, .iconst 1, 1), (112, .goto 4, 3), (115, .iconst 0, 1), (116, .ireturn, 1), (117, .astore 5, 2), (119, .iload 4, 2), (121, .ifCond .ne 7, 3), (124, .iconst 1, 1), (125, .goto 4, 3), (128, .iconst 0, 1), (129, .ireturn, 1)]
theorem dk_99_1 : ∀ q ∈ dl_99_1, decode (mCod (MdP 99)) q.1 = .ok q.2 := by
  rw [show mCod (MdP 99) = cX6_delete from rfl]
  decide +kernel
def tb_99_0 : List (Nat × Op1) := [(0, oLdR 0 1), (1, oCallV 92 0 1 7 []), (4, oALen 14), (5, oZne 10), (8, oCI 1 1), (9, oRetZ), (10, oLdR 0 1), (11, oLdR 0 1), (12, oGetR 7 3), (15, oALen 10), (16, oCallV 90 1 3 7 []), (19, oStI 1 1), (20, oLdR 0 1), (21, oLdR 0 1), (22, oCallV 92 0 1 7 []), (25, oALen 14), (26, oCallV 90 1 3 7 []), (29, oStI 2 1), (30, oCI 1 1), (31, oLdR 0 1), (32, oCI 9 2), (34, oLdR 0 1), (35, oCallV 92 0 1 7 []), (38, oALen 14), (39, oLdI 2 1), (40, oSub), (41, oMin), (44, oCallV 90 1 3 7 []), (47, oAdd), (48, oStI 3 1), (49, oLdR 0 1), (50, oGetR 7 3), (53, oLdI 1 1), (54, oALdI 10), (55, oCI 3 1), (56, oClt 73), (59, oLdR 0 1), (60, oGetR 7 5), (63, oALen 16)]
theorem sm_99_0 : ∀ q ∈ tb_99_0, SM GwP MdP D A l 99 q.1 q.2 :=
  List.forall_mem_cons.mpr ⟨sd_oLdR_n 99 0 0 0 rfl (dk_99_0 (0, .aload_n 0, 1) (List.mem_of_getElem? (i := 0) rfl)),
  List.forall_mem_cons.mpr ⟨sd_callV 99 1 92 0 1 68 7 [] (gdV hws_99 hws_92 zw368 zw369 zw370 zw362 zw367) hws_92 rfl (by decide +kernel) rfl rfl ⟨by decide +kernel, by decide +kernel, by decide +kernel⟩ ⟨by decide, by decide⟩ (catch_of (fun _ => by decide +kernel) (fun _ h => nomatch h)) RX6 rfl TX6 8 rfl ⟨by decide, by decide⟩ (dk_99_0 (1, .invokevirtual 68, 3) (List.mem_of_getElem? (i := 1) rfl)),
  List.forall_mem_cons.mpr ⟨sd_alen 99 4 14 ⟨by decide, by decide⟩ (dk_99_0 (4, .arraylength, 1) (List.mem_of_getElem? (i := 2) rfl)),
  List.forall_mem_cons.mpr ⟨sd_if_ne 99 5 5 10 (by decide) (dk_99_0 (5, .ifCond .ne 5, 3) (List.mem_of_getElem? (i := 3) rfl)),
  List.forall_mem_cons.mpr ⟨sd_iconst 99 8 1 ⟨by decide, by decide⟩ (dk_99_0 (8, .iconst 1, 1) (List.mem_of_getElem? (i := 4) rfl)),
  List.forall_mem_cons.mpr ⟨sd_zret 99 9 rfl (dk_99_0 (9, .ireturn, 1) (List.mem_of_getElem? (i := 5) rfl)),
  List.forall_mem_cons.mpr ⟨sd_oLdR_n 99 10 0 0 rfl (dk_99_0 (10, .aload_n 0, 1) (List.mem_of_getElem? (i := 6) rfl)),
  List.forall_mem_cons.mpr ⟨sd_oLdR_n 99 11 0 0 rfl (dk_99_0 (11, .aload_n 0, 1) (List.mem_of_getElem? (i := 7) rfl)),
  List.forall_mem_cons.mpr ⟨sd_oGetR 99 12 7 3 16 RX6 TX6 8 rfl ⟨by decide, by decide⟩ rfl (by decide) rfl (fun w h => iw_99 w (uz_6 w h)) rfl (iw_99 _ zw339) (dk_99_0 (12, .getfield 16, 3) (List.mem_of_getElem? (i := 8) rfl)),
  List.forall_mem_cons.mpr ⟨sd_alen 99 15 10 ⟨by decide, by decide⟩ (dk_99_0 (15, .arraylength, 1) (List.mem_of_getElem? (i := 9) rfl)),
  List.forall_mem_cons.mpr ⟨sd_callV 99 16 90 1 3 61 7 [] (gdV hws_99 hws_90 zw359 zw360 zw361 zw362 zw358) hws_90 rfl (by decide +kernel) rfl rfl ⟨by decide +kernel, by decide +kernel, by decide +kernel⟩ ⟨by decide, by decide⟩ (catch_of (fun _ => by decide +kernel) (fun _ h => nomatch h)) RX6 rfl TX6 8 rfl ⟨by decide, by decide⟩ (dk_99_0 (16, .invokevirtual 61, 3) (List.mem_of_getElem? (i := 10) rfl)),
  List.forall_mem_cons.mpr ⟨sd_oStI_n 99 19 1 1 rfl (by decide) (dk_99_0 (19, .istore_n 1, 1) (List.mem_of_getElem? (i := 11) rfl)),
  List.forall_mem_cons.mpr ⟨sd_oLdR_n 99 20 0 0 rfl (dk_99_0 (20, .aload_n 0, 1) (List.mem_of_getElem? (i := 12) rfl)),
  List.forall_mem_cons.mpr ⟨sd_oLdR_n 99 21 0 0 rfl (dk_99_0 (21, .aload_n 0, 1) (List.mem_of_getElem? (i := 13) rfl)),
  List.forall_mem_cons.mpr ⟨sd_callV 99 22 92 0 1 68 7 [] (gdV hws_99 hws_92 zw368 zw369 zw370 zw362 zw367) hws_92 rfl (by decide +kernel) rfl rfl ⟨by decide +kernel, by decide +kernel, by decide +kernel⟩ ⟨by decide, by decide⟩ (catch_of (fun _ => by decide +kernel) (fun _ h => nomatch h)) RX6 rfl TX6 8 rfl ⟨by decide, by decide⟩ (dk_99_0 (22, .invokevirtual 68, 3) (List.mem_of_getElem? (i := 14) rfl)),
  List.forall_mem_cons.mpr ⟨sd_alen 99 25 14 ⟨by decide, by decide⟩ (dk_99_0 (25, .arraylength, 1) (List.mem_of_getElem? (i := 15) rfl)),
  List.forall_mem_cons.mpr ⟨sd_callV 99 26 90 1 3 61 7 [] (gdV hws_99 hws_90 zw359 zw360 zw361 zw362 zw358) hws_90 rfl (by decide +kernel) rfl rfl ⟨by decide +kernel, by decide +kernel, by decide +kernel⟩ ⟨by decide, by decide⟩ (catch_of (fun _ => by decide +kernel) (fun _ h => nomatch h)) RX6 rfl TX6 8 rfl ⟨by decide, by decide⟩ (dk_99_0 (26, .invokevirtual 61, 3) (List.mem_of_getElem? (i := 16) rfl)),
  List.forall_mem_cons.mpr ⟨sd_oStI_n 99 29 2 2 rfl (by decide) (dk_99_0 (29, .istore_n 2, 1) (List.mem_of_getElem? (i := 17) rfl)),
  List.forall_mem_cons.mpr ⟨sd_iconst 99 30 1 ⟨by decide, by decide⟩ (dk_99_0 (30, .iconst 1, 1) (List.mem_of_getElem? (i := 18) rfl)),
  List.forall_mem_cons.mpr ⟨sd_oLdR_n 99 31 0 0 rfl (dk_99_0 (31, .aload_n 0, 1) (List.mem_of_getElem? (i := 19) rfl)),
  List.forall_mem_cons.mpr ⟨sd_bipush 99 32 9 ⟨by decide, by decide⟩ (by decide) (dk_99_0 (32, .bipush 9, 2) (List.mem_of_getElem? (i := 20) rfl)),
  List.forall_mem_cons.mpr ⟨sd_oLdR_n 99 34 0 0 rfl (dk_99_0 (34, .aload_n 0, 1) (List.mem_of_getElem? (i := 21) rfl)),
  List.forall_mem_cons.mpr ⟨sd_callV 99 35 92 0 1 68 7 [] (gdV hws_99 hws_92 zw368 zw369 zw370 zw362 zw367) hws_92 rfl (by decide +kernel) rfl rfl ⟨by decide +kernel, by decide +kernel, by decide +kernel⟩ ⟨by decide, by decide⟩ (catch_of (fun _ => by decide +kernel) (fun _ h => nomatch h)) RX6 rfl TX6 8 rfl ⟨by decide, by decide⟩ (dk_99_0 (35, .invokevirtual 68, 3) (List.mem_of_getElem? (i := 22) rfl)),
  List.forall_mem_cons.mpr ⟨sd_alen 99 38 14 ⟨by decide, by decide⟩ (dk_99_0 (38, .arraylength, 1) (List.mem_of_getElem? (i := 23) rfl)),
  List.forall_mem_cons.mpr ⟨sd_oLdI_n 99 39 2 2 rfl (dk_99_0 (39, .iload_n 2, 1) (List.mem_of_getElem? (i := 24) rfl)),
  List.forall_mem_cons.mpr ⟨sd_isub 99 40 (dk_99_0 (40, .isub, 1) (List.mem_of_getElem? (i := 25) rfl)),
  List.forall_mem_cons.mpr ⟨sd_min 99 41 93 (iw_99 _ zw388) (iw_99 _ zw14) (iw_99 _ zw15) (iw_99 _ zw16) (by decide) (by decide) (dk_99_0 (41, .invokestatic 93, 3) (List.mem_of_getElem? (i := 26) rfl)),
  List.forall_mem_cons.mpr ⟨sd_callV 99 44 90 1 3 61 7 [] (gdV hws_99 hws_90 zw359 zw360 zw361 zw362 zw358) hws_90 rfl (by decide +kernel) rfl rfl ⟨by decide +kernel, by decide +kernel, by decide +kernel⟩ ⟨by decide, by decide⟩ (catch_of (fun _ => by decide +kernel) (fun _ h => nomatch h)) RX6 rfl TX6 8 rfl ⟨by decide, by decide⟩ (dk_99_0 (44, .invokevirtual 61, 3) (List.mem_of_getElem? (i := 27) rfl)),
  List.forall_mem_cons.mpr ⟨sd_iadd 99 47 (dk_99_0 (47, .iadd, 1) (List.mem_of_getElem? (i := 28) rfl)),
  List.forall_mem_cons.mpr ⟨sd_oStI_n 99 48 3 3 rfl (by decide) (dk_99_0 (48, .istore_n 3, 1) (List.mem_of_getElem? (i := 29) rfl)),
  List.forall_mem_cons.mpr ⟨sd_oLdR_n 99 49 0 0 rfl (dk_99_0 (49, .aload_n 0, 1) (List.mem_of_getElem? (i := 30) rfl)),
  List.forall_mem_cons.mpr ⟨sd_oGetR 99 50 7 3 16 RX6 TX6 8 rfl ⟨by decide, by decide⟩ rfl (by decide) rfl (fun w h => iw_99 w (uz_6 w h)) rfl (iw_99 _ zw339) (dk_99_0 (50, .getfield 16, 3) (List.mem_of_getElem? (i := 31) rfl)),
  List.forall_mem_cons.mpr ⟨sd_oLdI_n 99 53 1 1 rfl (dk_99_0 (53, .iload_n 1, 1) (List.mem_of_getElem? (i := 32) rfl)),
  List.forall_mem_cons.mpr ⟨sd_iald 99 54 (dk_99_0 (54, .iaload, 1) (List.mem_of_getElem? (i := 33) rfl)),
  List.forall_mem_cons.mpr ⟨sd_iconst 99 55 3 ⟨by decide, by decide⟩ (dk_99_0 (55, .iconst 3, 1) (List.mem_of_getElem? (i := 34) rfl)),
  List.forall_mem_cons.mpr ⟨sd_icmp_lt 99 56 17 73 (by decide) (dk_99_0 (56, .if_icmp .lt 17, 3) (List.mem_of_getElem? (i := 35) rfl)),
  List.forall_mem_cons.mpr ⟨sd_oLdR_n 99 59 0 0 rfl (dk_99_0 (59, .aload_n 0, 1) (List.mem_of_getElem? (i := 36) rfl)),
  List.forall_mem_cons.mpr ⟨sd_oGetR 99 60 7 5 22 RX6 TX6 8 rfl ⟨by decide, by decide⟩ rfl (by decide) rfl (fun w h => iw_99 w (uz_6 w h)) rfl (iw_99 _ zw341) (dk_99_0 (60, .getfield 22, 3) (List.mem_of_getElem? (i := 37) rfl)),
  List.forall_mem_cons.mpr ⟨sd_alen 99 63 16 ⟨by decide, by decide⟩ (dk_99_0 (63, .arraylength, 1) (List.mem_of_getElem? (i := 38) rfl)),
  fun _ h => nomatch h⟩⟩⟩⟩⟩⟩⟩⟩⟩⟩⟩⟩⟩⟩⟩⟩⟩⟩⟩⟩⟩⟩⟩⟩⟩⟩⟩⟩⟩⟩⟩⟩⟩⟩⟩⟩⟩⟩⟩
def tb_99_1 : List (Nat × Op1) := [(64, oCI 60 2), (66, oCgt 73), (69, oCI 1 1), (70, oGoto 74), (73, oCI 0 1), (74, oStI 4 2), (76, oLdR 0 1), (77, oGetR 7 0), (80, oLdI 1 1), (81, oLdI 2 1), (82, oLdI 3 1), (83, oCallV 35 3 4 6 [(2, 117)]), (86, oStI 5 2), (88, oLdI 4 2), (90, oZne 95), (93, oCI 0 1), (94, oRetZ), (95, oLdR 0 1), (96, oLdI 2 1), (97, oLdI 3 1), (98, oCallV 97 2 10 7 [(2, 117)]), (101, oLdI 5 2), (103, oLdR 0 1), (104, oCallV 92 0 1 7 [(2, 117)]), (107, oALen 14), (108, oCne 115), (111, oCI 1 1), (112, oGoto 116), (115, oCI 0 1), (116, oRetZ), (117, oStR 5 2), (119, oLdI 4 2), (121, oZne 128), (124, oCI 1 1), (125, oGoto 129)]
theorem sm_99_1 : ∀ q ∈ tb_99_1, SM GwP MdP D A l 99 q.1 q.2 :=
  List.forall_mem_cons.mpr ⟨sd_bipush 99 64 60 ⟨by decide, by decide⟩ (by decide) (dk_99_0 (64, .bipush 60, 2) (List.mem_of_getElem? (i := 39) rfl)),
  List.forall_mem_cons.mpr ⟨sd_icmp_gt 99 66 7 73 (by decide) (dk_99_1 (66, .if_icmp .gt 7, 3) (List.mem_of_getElem? (i := 0) rfl)),
  List.forall_mem_cons.mpr ⟨sd_iconst 99 69 1 ⟨by decide, by decide⟩ (dk_99_1 (69, .iconst 1, 1) (List.mem_of_getElem? (i := 1) rfl)),
  List.forall_mem_cons.mpr ⟨sd_goto 99 70 4 74 (by decide) (dk_99_1 (70, .goto 4, 3) (List.mem_of_getElem? (i := 2) rfl)),
  List.forall_mem_cons.mpr ⟨sd_iconst 99 73 0 ⟨by decide, by decide⟩ (dk_99_1 (73, .iconst 0, 1) (List.mem_of_getElem? (i := 3) rfl)),
  List.forall_mem_cons.mpr ⟨sd_oStI 99 74 4 (by decide) (dk_99_1 (74, .istore 4, 2) (List.mem_of_getElem? (i := 4) rfl)),
  List.forall_mem_cons.mpr ⟨sd_oLdR_n 99 76 0 0 rfl (dk_99_1 (76, .aload_n 0, 1) (List.mem_of_getElem? (i := 5) rfl)),
  List.forall_mem_cons.mpr ⟨sd_oGetR 99 77 7 0 10 RX6 TX6 8 rfl ⟨by decide, by decide⟩ rfl (by decide) rfl (fun w h => iw_99 w (uz_6 w h)) rfl (iw_99 _ zw338) (dk_99_1 (77, .getfield 10, 3) (List.mem_of_getElem? (i := 6) rfl)),
  List.forall_mem_cons.mpr ⟨sd_oLdI_n 99 80 1 1 rfl (dk_99_1 (80, .iload_n 1, 1) (List.mem_of_getElem? (i := 7) rfl)),
  List.forall_mem_cons.mpr ⟨sd_oLdI_n 99 81 2 2 rfl (dk_99_1 (81, .iload_n 2, 1) (List.mem_of_getElem? (i := 8) rfl)),
  List.forall_mem_cons.mpr ⟨sd_oLdI_n 99 82 3 3 rfl (dk_99_1 (82, .iload_n 3, 1) (List.mem_of_getElem? (i := 9) rfl)),
  List.forall_mem_cons.mpr ⟨sd_callV 99 83 35 3 4 98 6 [(2, 117)] (gdV hws_99 hws_35 zw390 zw391 zw392 zw63 zw389) hws_35 rfl (by decide +kernel) rfl rfl ⟨by decide +kernel, by decide +kernel, by decide +kernel⟩ ⟨by decide, by decide⟩ (catch_of (fun h => nomatch h) (List.forall_mem_cons.mpr ⟨⟨[], ⟨76, 94, 117, 91⟩, [⟨95, 116, 117, 91⟩], "java/lang/IllegalStateException", rfl, (fun _ h => nomatch h), by decide, by decide, (iw_99 _ zw379), List.mem_of_getElem? (i := 1) rfl, rfl⟩, (fun _ h => nomatch h)⟩)) RX5 rfl TX5 7 rfl ⟨by decide, by decide⟩ (dk_99_1 (83, .invokevirtual 98, 3) (List.mem_of_getElem? (i := 10) rfl)),
  List.forall_mem_cons.mpr ⟨sd_oStI 99 86 5 (by decide) (dk_99_1 (86, .istore 5, 2) (List.mem_of_getElem? (i := 11) rfl)),
  List.forall_mem_cons.mpr ⟨sd_oLdI 99 88 4 (dk_99_1 (88, .iload 4, 2) (List.mem_of_getElem? (i := 12) rfl)),
  List.forall_mem_cons.mpr ⟨sd_if_ne 99 90 5 95 (by decide) (dk_99_1 (90, .ifCond .ne 5, 3) (List.mem_of_getElem? (i := 13) rfl)),
  List.forall_mem_cons.mpr ⟨sd_iconst 99 93 0 ⟨by decide, by decide⟩ (dk_99_1 (93, .iconst 0, 1) (List.mem_of_getElem? (i := 14) rfl)),
  List.forall_mem_cons.mpr ⟨sd_zret 99 94 rfl (dk_99_1 (94, .ireturn, 1) (List.mem_of_getElem? (i := 15) rfl)),
  List.forall_mem_cons.mpr ⟨sd_oLdR_n 99 95 0 0 rfl (dk_99_1 (95, .aload_n 0, 1) (List.mem_of_getElem? (i := 16) rfl)),
  List.forall_mem_cons.mpr ⟨sd_oLdI_n 99 96 2 2 rfl (dk_99_1 (96, .iload_n 2, 1) (List.mem_of_getElem? (i := 17) rfl)),
  List.forall_mem_cons.mpr ⟨sd_oLdI_n 99 97 3 3 rfl (dk_99_1 (97, .iload_n 3, 1) (List.mem_of_getElem? (i := 18) rfl)),
  List.forall_mem_cons.mpr ⟨sd_callV 99 98 97 2 10 101 7 [(2, 117)] (gdV hws_99 hws_97 zw394 zw395 zw396 zw362 zw393) hws_97 rfl (by decide +kernel) rfl rfl ⟨by decide +kernel, by decide +kernel, by decide +kernel⟩ ⟨by decide, by decide⟩ (catch_of (fun h => nomatch h) (List.forall_mem_cons.mpr ⟨⟨[⟨76, 94, 117, 91⟩], ⟨95, 116, 117, 91⟩, [], "java/lang/IllegalStateException", rfl, (List.forall_mem_cons.mpr ⟨Or.inl (by decide), (fun _ h => nomatch h)⟩), by decide, by decide, (iw_99 _ zw379), List.mem_of_getElem? (i := 1) rfl, rfl⟩, (fun _ h => nomatch h)⟩)) RX6 rfl TX6 8 rfl ⟨by decide, by decide⟩ (dk_99_1 (98, .invokevirtual 101, 3) (List.mem_of_getElem? (i := 19) rfl)),
  List.forall_mem_cons.mpr ⟨sd_oLdI 99 101 5 (dk_99_1 (101, .iload 5, 2) (List.mem_of_getElem? (i := 20) rfl)),
  List.forall_mem_cons.mpr ⟨sd_oLdR_n 99 103 0 0 rfl (dk_99_1 (103, .aload_n 0, 1) (List.mem_of_getElem? (i := 21) rfl)),
  List.forall_mem_cons.mpr ⟨sd_callV 99 104 92 0 1 68 7 [(2, 117)] (gdV hws_99 hws_92 zw368 zw369 zw370 zw362 zw367) hws_92 rfl (by decide +kernel) rfl rfl ⟨by decide +kernel, by decide +kernel, by decide +kernel⟩ ⟨by decide, by decide⟩ (catch_of (fun h => nomatch h) (List.forall_mem_cons.mpr ⟨⟨[⟨76, 94, 117, 91⟩], ⟨95, 116, 117, 91⟩, [], "java/lang/IllegalStateException", rfl, (List.forall_mem_cons.mpr ⟨Or.inl (by decide), (fun _ h => nomatch h)⟩), by decide, by decide, (iw_99 _ zw379), List.mem_of_getElem? (i := 1) rfl, rfl⟩, (fun _ h => nomatch h)⟩)) RX6 rfl TX6 8 rfl ⟨by decide, by decide⟩ (dk_99_1 (104, .invokevirtual 68, 3) (List.mem_of_getElem? (i := 22) rfl)),
  List.forall_mem_cons.mpr ⟨sd_alen 99 107 14 ⟨by decide, by decide⟩ (dk_99_1 (107, .arraylength, 1) (List.mem_of_getElem? (i := 23) rfl)),
  List.forall_mem_cons.mpr ⟨sd_icmp_ne 99 108 7 115 (by decide) (dk_99_1 (108, .if_icmp .ne 7, 3) (List.mem_of_getElem? (i := 24) rfl)),
  List.forall_mem_cons.mpr ⟨sd_iconst 99 111 1 ⟨by decide, by decide⟩ (dk_99_1 (111, .iconst 1, 1) (List.mem_of_getElem? (i := 25) rfl)),
  List.forall_mem_cons.mpr ⟨sd_goto 99 112 4 116 (by decide) (dk_99_1 (112, .goto 4, 3) (List.mem_of_getElem? (i := 26) rfl)),
  List.forall_mem_cons.mpr ⟨sd_iconst 99 115 0 ⟨by decide, by decide⟩ (dk_99_1 (115, .iconst 0, 1) (List.mem_of_getElem? (i := 27) rfl)),
  List.forall_mem_cons.mpr ⟨sd_zret 99 116 rfl (dk_99_1 (116, .ireturn, 1) (List.mem_of_getElem? (i := 28) rfl)),
  List.forall_mem_cons.mpr ⟨sd_oStR 99 117 5 (by decide) (dk_99_1 (117, .astore 5, 2) (List.mem_of_getElem? (i := 29) rfl)),
  List.forall_mem_cons.mpr ⟨sd_oLdI 99 119 4 (dk_99_1 (119, .iload 4, 2) (List.mem_of_getElem? (i := 30) rfl)),
  List.forall_mem_cons.mpr ⟨sd_if_ne 99 121 7 128 (by decide) (dk_99_1 (121, .ifCond .ne 7, 3) (List.mem_of_getElem? (i := 31) rfl)),
  List.forall_mem_cons.mpr ⟨sd_iconst 99 124 1 ⟨by decide, by decide⟩ (dk_99_1 (124, .iconst 1, 1) (List.mem_of_getElem? (i := 32) rfl)),
  List.forall_mem_cons.mpr ⟨sd_goto 99 125 4 129 (by decide) (dk_99_1 (125, .goto 4, 3) (List.mem_of_getElem? (i := 33) rfl)),
  fun _ h => nomatch h⟩⟩⟩⟩⟩⟩⟩⟩⟩⟩⟩⟩⟩⟩⟩⟩⟩⟩⟩⟩⟩⟩⟩⟩⟩⟩⟩⟩⟩⟩⟩⟩⟩⟩⟩
def tb_99_2 : List (Nat × Op1) := [(128, oCI 0 1), (129, oRetZ)]
theorem sm_99_2 : ∀ q ∈ tb_99_2, SM GwP MdP D A l 99 q.1 q.2 :=
  List.forall_mem_cons.mpr ⟨sd_iconst 99 128 0 ⟨by decide, by decide⟩ (dk_99_1 (128, .iconst 0, 1) (List.mem_of_getElem? (i := 34) rfl)),
  List.forall_mem_cons.mpr ⟨sd_zret 99 129 rfl (dk_99_1 (129, .ireturn, 1) (List.mem_of_getElem? (i := 35) rfl)),
  fun _ h => nomatch h⟩⟩
def tb_99 : List (List (Nat × Op1)) := [tb_99_0, tb_99_1, tb_99_2]
theorem sm_99 : ∀ t ∈ tb_99, ∀ q ∈ t, SM GwP MdP D A l 99 q.1 q.2 := List.forall_mem_cons.mpr ⟨sm_99_0, List.forall_mem_cons.mpr ⟨sm_99_1, List.forall_mem_cons.mpr ⟨sm_99_2, fun _ h => nomatch h⟩⟩⟩
-- 100: MarginaliaLaw$Page.sees(III)Z
def dl_100_0 : List (Nat × Instr × Nat) := [(0, .aload_n 0, 1), (1, .getfield 26, 3), (4, .aload_n 0, 1), (5, .getfield 26, 3), (8, .iload_n 3, 1), (9, .aaload, 1), (10, .iconst 3, 1), (11, .iaload, 1), (12, .aaload, 1), (13, .astore 4, 2), (15, .iload_n 2, 1), (16, .ifCond .ne 5, 3), (19, .iconst 0, 1), (20, .ireturn, 1), (21, .iload_n 2, 1), (22, .iconst 4, 1), (23, .if_icmp .eq 34, 3), (26, .aload 4, 2), (28, .iconst 0, 1), (29, .iaload, 1), (30, .iload_n 1, 1), (31, .if_icmp .eq 26, 3), (34, .aload 4, 2), (36, .bipush 7, 2), (38, .iaload, 1), (39, .iconst 2, 1), (40, .if_icmp .eq 17, 3), (43, .aload 4, 2), (45, .bipush 7, 2), (47, .iaload, 1), (48, .iconst 1, 1), (49, .if_icmp .ne 12, 3), (52, .iload_n 2, 1), (53, .iconst 1, 1), (54, .if_icmp .le 7, 3), (57, .iconst 1, 1), (58, .goto 4, 3), (61, .iconst 0, 1), (62, .ireturn, 1)]
theorem dk_100_0 : ∀ q ∈ dl_100_0, decode (mCod (MdP 100)) q.1 = .ok q.2 := by
  rw [show mCod (MdP 100) = cX6_sees from rfl]
  decide +kernel
def tb_100_0 : List (Nat × Op1) := [(0, oLdR 0 1), (1, oGetR 7 6), (4, oLdR 0 1), (5, oGetR 7 6), (8, oLdI 3 1), (9, oALdR 14), (10, oCI 3 1), (11, oALdI 10), (12, oALdR 14), (13, oStR 4 2), (15, oLdI 2 1), (16, oZne 21), (19, oCI 0 1), (20, oRetZ), (21, oLdI 2 1), (22, oCI 4 1), (23, oCeq 57), (26, oLdR 4 2), (28, oCI 0 1), (29, oALdI 10), (30, oLdI 1 1), (31, oCeq 57), (34, oLdR 4 2), (36, oCI 7 2), (38, oALdI 10), (39, oCI 2 1), (40, oCeq 57), (43, oLdR 4 2), (45, oCI 7 2), (47, oALdI 10), (48, oCI 1 1), (49, oCne 61), (52, oLdI 2 1), (53, oCI 1 1), (54, oCle 61), (57, oCI 1 1), (58, oGoto 62), (61, oCI 0 1), (62, oRetZ)]
theorem sm_100_0 : ∀ q ∈ tb_100_0, SM GwP MdP D A l 100 q.1 q.2 :=
  List.forall_mem_cons.mpr ⟨sd_oLdR_n 100 0 0 0 rfl (dk_100_0 (0, .aload_n 0, 1) (List.mem_of_getElem? (i := 0) rfl)),
  List.forall_mem_cons.mpr ⟨sd_oGetR 100 1 7 6 26 RX6 TX6 8 rfl ⟨by decide, by decide⟩ rfl (by decide) rfl (fun w h => iw_100 w (uz_6 w h)) rfl (iw_100 _ zw343) (dk_100_0 (1, .getfield 26, 3) (List.mem_of_getElem? (i := 1) rfl)),
  List.forall_mem_cons.mpr ⟨sd_oLdR_n 100 4 0 0 rfl (dk_100_0 (4, .aload_n 0, 1) (List.mem_of_getElem? (i := 2) rfl)),
  List.forall_mem_cons.mpr ⟨sd_oGetR 100 5 7 6 26 RX6 TX6 8 rfl ⟨by decide, by decide⟩ rfl (by decide) rfl (fun w h => iw_100 w (uz_6 w h)) rfl (iw_100 _ zw343) (dk_100_0 (5, .getfield 26, 3) (List.mem_of_getElem? (i := 3) rfl)),
  List.forall_mem_cons.mpr ⟨sd_oLdI_n 100 8 3 3 rfl (dk_100_0 (8, .iload_n 3, 1) (List.mem_of_getElem? (i := 4) rfl)),
  List.forall_mem_cons.mpr ⟨sd_aaldA 100 9 (dk_100_0 (9, .aaload, 1) (List.mem_of_getElem? (i := 5) rfl)),
  List.forall_mem_cons.mpr ⟨sd_iconst 100 10 3 ⟨by decide, by decide⟩ (dk_100_0 (10, .iconst 3, 1) (List.mem_of_getElem? (i := 6) rfl)),
  List.forall_mem_cons.mpr ⟨sd_iald 100 11 (dk_100_0 (11, .iaload, 1) (List.mem_of_getElem? (i := 7) rfl)),
  List.forall_mem_cons.mpr ⟨sd_aaldA 100 12 (dk_100_0 (12, .aaload, 1) (List.mem_of_getElem? (i := 8) rfl)),
  List.forall_mem_cons.mpr ⟨sd_oStR 100 13 4 (by decide) (dk_100_0 (13, .astore 4, 2) (List.mem_of_getElem? (i := 9) rfl)),
  List.forall_mem_cons.mpr ⟨sd_oLdI_n 100 15 2 2 rfl (dk_100_0 (15, .iload_n 2, 1) (List.mem_of_getElem? (i := 10) rfl)),
  List.forall_mem_cons.mpr ⟨sd_if_ne 100 16 5 21 (by decide) (dk_100_0 (16, .ifCond .ne 5, 3) (List.mem_of_getElem? (i := 11) rfl)),
  List.forall_mem_cons.mpr ⟨sd_iconst 100 19 0 ⟨by decide, by decide⟩ (dk_100_0 (19, .iconst 0, 1) (List.mem_of_getElem? (i := 12) rfl)),
  List.forall_mem_cons.mpr ⟨sd_zret 100 20 rfl (dk_100_0 (20, .ireturn, 1) (List.mem_of_getElem? (i := 13) rfl)),
  List.forall_mem_cons.mpr ⟨sd_oLdI_n 100 21 2 2 rfl (dk_100_0 (21, .iload_n 2, 1) (List.mem_of_getElem? (i := 14) rfl)),
  List.forall_mem_cons.mpr ⟨sd_iconst 100 22 4 ⟨by decide, by decide⟩ (dk_100_0 (22, .iconst 4, 1) (List.mem_of_getElem? (i := 15) rfl)),
  List.forall_mem_cons.mpr ⟨sd_icmp_eq 100 23 34 57 (by decide) (dk_100_0 (23, .if_icmp .eq 34, 3) (List.mem_of_getElem? (i := 16) rfl)),
  List.forall_mem_cons.mpr ⟨sd_oLdR 100 26 4 (dk_100_0 (26, .aload 4, 2) (List.mem_of_getElem? (i := 17) rfl)),
  List.forall_mem_cons.mpr ⟨sd_iconst 100 28 0 ⟨by decide, by decide⟩ (dk_100_0 (28, .iconst 0, 1) (List.mem_of_getElem? (i := 18) rfl)),
  List.forall_mem_cons.mpr ⟨sd_iald 100 29 (dk_100_0 (29, .iaload, 1) (List.mem_of_getElem? (i := 19) rfl)),
  List.forall_mem_cons.mpr ⟨sd_oLdI_n 100 30 1 1 rfl (dk_100_0 (30, .iload_n 1, 1) (List.mem_of_getElem? (i := 20) rfl)),
  List.forall_mem_cons.mpr ⟨sd_icmp_eq 100 31 26 57 (by decide) (dk_100_0 (31, .if_icmp .eq 26, 3) (List.mem_of_getElem? (i := 21) rfl)),
  List.forall_mem_cons.mpr ⟨sd_oLdR 100 34 4 (dk_100_0 (34, .aload 4, 2) (List.mem_of_getElem? (i := 22) rfl)),
  List.forall_mem_cons.mpr ⟨sd_bipush 100 36 7 ⟨by decide, by decide⟩ (by decide) (dk_100_0 (36, .bipush 7, 2) (List.mem_of_getElem? (i := 23) rfl)),
  List.forall_mem_cons.mpr ⟨sd_iald 100 38 (dk_100_0 (38, .iaload, 1) (List.mem_of_getElem? (i := 24) rfl)),
  List.forall_mem_cons.mpr ⟨sd_iconst 100 39 2 ⟨by decide, by decide⟩ (dk_100_0 (39, .iconst 2, 1) (List.mem_of_getElem? (i := 25) rfl)),
  List.forall_mem_cons.mpr ⟨sd_icmp_eq 100 40 17 57 (by decide) (dk_100_0 (40, .if_icmp .eq 17, 3) (List.mem_of_getElem? (i := 26) rfl)),
  List.forall_mem_cons.mpr ⟨sd_oLdR 100 43 4 (dk_100_0 (43, .aload 4, 2) (List.mem_of_getElem? (i := 27) rfl)),
  List.forall_mem_cons.mpr ⟨sd_bipush 100 45 7 ⟨by decide, by decide⟩ (by decide) (dk_100_0 (45, .bipush 7, 2) (List.mem_of_getElem? (i := 28) rfl)),
  List.forall_mem_cons.mpr ⟨sd_iald 100 47 (dk_100_0 (47, .iaload, 1) (List.mem_of_getElem? (i := 29) rfl)),
  List.forall_mem_cons.mpr ⟨sd_iconst 100 48 1 ⟨by decide, by decide⟩ (dk_100_0 (48, .iconst 1, 1) (List.mem_of_getElem? (i := 30) rfl)),
  List.forall_mem_cons.mpr ⟨sd_icmp_ne 100 49 12 61 (by decide) (dk_100_0 (49, .if_icmp .ne 12, 3) (List.mem_of_getElem? (i := 31) rfl)),
  List.forall_mem_cons.mpr ⟨sd_oLdI_n 100 52 2 2 rfl (dk_100_0 (52, .iload_n 2, 1) (List.mem_of_getElem? (i := 32) rfl)),
  List.forall_mem_cons.mpr ⟨sd_iconst 100 53 1 ⟨by decide, by decide⟩ (dk_100_0 (53, .iconst 1, 1) (List.mem_of_getElem? (i := 33) rfl)),
  List.forall_mem_cons.mpr ⟨sd_icmp_le 100 54 7 61 (by decide) (dk_100_0 (54, .if_icmp .le 7, 3) (List.mem_of_getElem? (i := 34) rfl)),
  List.forall_mem_cons.mpr ⟨sd_iconst 100 57 1 ⟨by decide, by decide⟩ (dk_100_0 (57, .iconst 1, 1) (List.mem_of_getElem? (i := 35) rfl)),
  List.forall_mem_cons.mpr ⟨sd_goto 100 58 4 62 (by decide) (dk_100_0 (58, .goto 4, 3) (List.mem_of_getElem? (i := 36) rfl)),
  List.forall_mem_cons.mpr ⟨sd_iconst 100 61 0 ⟨by decide, by decide⟩ (dk_100_0 (61, .iconst 0, 1) (List.mem_of_getElem? (i := 37) rfl)),
  List.forall_mem_cons.mpr ⟨sd_zret 100 62 rfl (dk_100_0 (62, .ireturn, 1) (List.mem_of_getElem? (i := 38) rfl)),
  fun _ h => nomatch h⟩⟩⟩⟩⟩⟩⟩⟩⟩⟩⟩⟩⟩⟩⟩⟩⟩⟩⟩⟩⟩⟩⟩⟩⟩⟩⟩⟩⟩⟩⟩⟩⟩⟩⟩⟩⟩⟩⟩
def tb_100 : List (List (Nat × Op1)) := [tb_100_0]
theorem sm_100 : ∀ t ∈ tb_100, ∀ q ∈ t, SM GwP MdP D A l 100 q.1 q.2 := List.forall_mem_cons.mpr ⟨sm_100_0, fun _ h => nomatch h⟩
-- 101: MarginaliaLaw$Page.sees(II)Z
def dl_101_0 : List (Nat × Instr × Nat) := [(0, .aload_n 0, 1), (1, .iload_n 1, 1), (2, .aload_n 0, 1), (3, .getfield 16, 3), (6, .iload_n 1, 1), (7, .iaload, 1), (8, .iload_n 2, 1), (9, .invokevirtual 105, 3), (12, .ireturn, 1)]
theorem dk_101_0 : ∀ q ∈ dl_101_0, decode (mCod (MdP 101)) q.1 = .ok q.2 := by
  rw [show mCod (MdP 101) = cX6_sees_ from rfl]
  decide +kernel
def tb_101_0 : List (Nat × Op1) := [(0, oLdR 0 1), (1, oLdI 1 1), (2, oLdR 0 1), (3, oGetR 7 3), (6, oLdI 1 1), (7, oALdI 10), (8, oLdI 2 1), (9, oCallV 100 3 5 7 []), (12, oRetZ)]
theorem sm_101_0 : ∀ q ∈ tb_101_0, SM GwP MdP D A l 101 q.1 q.2 :=
  List.forall_mem_cons.mpr ⟨sd_oLdR_n 101 0 0 0 rfl (dk_101_0 (0, .aload_n 0, 1) (List.mem_of_getElem? (i := 0) rfl)),
  List.forall_mem_cons.mpr ⟨sd_oLdI_n 101 1 1 1 rfl (dk_101_0 (1, .iload_n 1, 1) (List.mem_of_getElem? (i := 1) rfl)),
  List.forall_mem_cons.mpr ⟨sd_oLdR_n 101 2 0 0 rfl (dk_101_0 (2, .aload_n 0, 1) (List.mem_of_getElem? (i := 2) rfl)),
  List.forall_mem_cons.mpr ⟨sd_oGetR 101 3 7 3 16 RX6 TX6 8 rfl ⟨by decide, by decide⟩ rfl (by decide) rfl (fun w h => iw_101 w (uz_6 w h)) rfl (iw_101 _ zw339) (dk_101_0 (3, .getfield 16, 3) (List.mem_of_getElem? (i := 3) rfl)),
  List.forall_mem_cons.mpr ⟨sd_oLdI_n 101 6 1 1 rfl (dk_101_0 (6, .iload_n 1, 1) (List.mem_of_getElem? (i := 4) rfl)),
  List.forall_mem_cons.mpr ⟨sd_iald 101 7 (dk_101_0 (7, .iaload, 1) (List.mem_of_getElem? (i := 5) rfl)),
  List.forall_mem_cons.mpr ⟨sd_oLdI_n 101 8 2 2 rfl (dk_101_0 (8, .iload_n 2, 1) (List.mem_of_getElem? (i := 6) rfl)),
  List.forall_mem_cons.mpr ⟨sd_callV 101 9 100 3 5 105 7 [] (gdV hws_101 hws_100 zw398 zw399 zw400 zw362 zw397) hws_100 rfl (by decide +kernel) rfl rfl ⟨by decide +kernel, by decide +kernel, by decide +kernel⟩ ⟨by decide, by decide⟩ (catch_nil rfl) RX6 rfl TX6 8 rfl ⟨by decide, by decide⟩ (dk_101_0 (9, .invokevirtual 105, 3) (List.mem_of_getElem? (i := 7) rfl)),
  List.forall_mem_cons.mpr ⟨sd_zret 101 12 rfl (dk_101_0 (12, .ireturn, 1) (List.mem_of_getElem? (i := 8) rfl)),
  fun _ h => nomatch h⟩⟩⟩⟩⟩⟩⟩⟩⟩
def tb_101 : List (List (Nat × Op1)) := [tb_101_0]
theorem sm_101 : ∀ t ∈ tb_101, ∀ q ∈ t, SM GwP MdP D A l 101 q.1 q.2 := List.forall_mem_cons.mpr ⟨sm_101_0, fun _ h => nomatch h⟩
-- 102: MarginaliaLaw$Page.note()Z
def dl_102_0 : List (Nat × Instr × Nat) := [(0, .aload_n 0, 1), (1, .invokevirtual 68, 3), (4, .arraylength, 1), (5, .ifCond .ne 5, 3), (8, .iconst 1, 1), (9, .ireturn, 1), (10, .aload_n 0, 1), (11, .aload_n 0, 1), (12, .getfield 16, 3), (15, .arraylength, 1), (16, .invokevirtual 61, 3), (19, .istore_n 1, 1), (20, .aload_n 0, 1), (21, .aload_n 0, 1), (22, .invokevirtual 68, 3), (25, .arraylength, 1), (26, .invokevirtual 61, 3), (29, .istore_n 2, 1), (30, .iload_n 2, 1), (31, .iconst 1, 1), (32, .iadd, 1), (33, .aload_n 0, 1), (34, .bipush 15, 2), (36, .aload_n 0, 1), (37, .invokevirtual 68, 3), (40, .arraylength, 1), (41, .iload_n 2, 1), (42, .isub, 1), (43, .invokestatic 93, 3), (46, .invokevirtual 61, 3), (49, .iadd, 1), (50, .istore_n 3, 1), (51, .aload_n 0, 1), (52, .iconst 3, 1), (53, .invokevirtual 61, 3), (56, .istore 4, 2), (58, .aload_n 0, 1), (59, .sipush 1000, 3), (62, .invokevirtual 61, 3), (65, .istore 5, 2)]
theorem dk_102_0 : ∀ q ∈ dl_102_0, decode (mCod (MdP 102)) q.1 = .ok q.2 := by
  rw [show mCod (MdP 102) = cX6_note from rfl]
  decide +kernel
def dl_102_1 : List (Nat × Instr × Nat) := [(67, .aload_n 0, 1), (68, .getfield 16, 3), (71, .iload_n 1, 1), (72, .iaload, 1), (73, .iconst 2, 1), (74, .if_icmp .lt 17, 3), (77, .aload_n 0, 1), (78, .getfield 26, 3), (81, .arraylength, 1), (82, .bipush 60, 2), (84, .if_icmp .ge 7, 3), (87, .iconst 1, 1), (88, .goto 4, 3), (91, .iconst 0, 1), (92, .istore 6, 2), (94, .bipush 12, 2), (96, .iload_n 3, 1), (97, .iload_n 2, 1), (98, .isub, 1), (99, .invokestatic 93, 3), (102, .istore 7, 2), (104, .bipush 11, 2), (106, .iload 7, 2), (108, .iadd, 1), (109, .newarray .int, 2), (111, .astore 8, 2), (113, .bipush 11, 2), (115, .newarray .int, 2), (117, .dup, 1), (118, .iconst 0, 1), (119, .iload_n 1, 1), (120, .iastore, 1), (121, .dup, 1), (122, .iconst 1, 1), (123, .iload 5, 2), (125, .iastore, 1), (126, .dup, 1), (127, .iconst 2, 1), (128, .iconst (-1), 1), (129, .iastore, 1)]
theorem dk_102_1 : ∀ q ∈ dl_102_1, decode (mCod (MdP 102)) q.1 = .ok q.2 := by
  rw [show mCod (MdP 102) = cX6_note from rfl]
  decide +kernel
def dl_102_2 : List (Nat × Instr × Nat) := [(130, .dup, 1), (131, .iconst 3, 1), (132, .aload_n 0, 1), (133, .getfield 26, 3), (136, .arraylength, 1), (137, .iastore, 1), (138, .dup, 1), (139, .iconst 4, 1), (140, .iconst 0, 1), (141, .iastore, 1), (142, .dup, 1), (143, .iconst 5, 1), (144, .iload_n 2, 1), (145, .iastore, 1), (146, .dup, 1), (147, .bipush 6, 2), (149, .iload_n 3, 1), (150, .iastore, 1), (151, .dup, 1), (152, .bipush 7, 2), (154, .iload 4, 2), (156, .iastore, 1), (157, .dup, 1), (158, .bipush 8, 2), (160, .iconst 0, 1), (161, .iastore, 1), (162, .dup, 1), (163, .bipush 9, 2), (165, .iconst (-1), 1), (166, .iastore, 1), (167, .dup, 1), (168, .bipush 10, 2), (170, .iconst 0, 1), (171, .iastore, 1), (172, .astore 9, 2), (174, .aload 9, 2), (176, .iconst 0, 1), (177, .aload 8, 2), (179, .iconst 0, 1), (180, .bipush 11, 2)]
theorem dk_102_2 : ∀ q ∈ dl_102_2, decode (mCod (MdP 102)) q.1 = .ok q.2 := by
  rw [show mCod (MdP 102) = cX6_note from rfl]
  decide +kernel
def dl_102_3 : List (Nat × Instr × Nat) := [(182, .invokestatic 50, 3), (185, .iconst 0, 1), (186, .istore 10, 2), (188, .iload 10, 2), (190, .iload 7, 2), (192, .if_icmp .ge 28, 3), (195, .aload 8, 2), (197, .bipush 11, 2), (199, .iload 10, 2), (201, .iadd, 1), (202, .aload_n 0, 1), (203, .invokevirtual 68, 3), (206, .iload_n 2, 1), (207, .iload 10, 2), (209, .iadd, 1), (210, .aaload, 1), (211, .iconst 1, 1), (212, .iaload, 1), (213, .iastore, 1), (214, .iinc 10 1, 3), (217, .goto (-29), 3), (220, .aload_n 0, 1), (221, .getfield 10, 3), (224, .iload_n 1, 1), (225, .iload_n 2, 1), (226, .iload_n 3, 1), (227, .iload 4, 2), (229, .iload 5, 2), (231, .invokevirtual 109, 3), (234, .istore 10, 2), (236, .iload 6, 2), (238, .ifCond .ne 5, 3), (241, .iconst 0, 1), (242, .ireturn, 1), (243, .aload_n 0, 1), (244, .aload_n 0, 1), (245, .getfield 26, 3), (248, .aload_n 0, 1), (249, .getfield 26, 3), (252, .arraylength, 1)]
theorem dk_102_3 : ∀ q ∈ dl_102_3, decode (mCod (MdP 102)) q.1 = .ok q.2 := by
  rw [show mCod (MdP 102) = cX6_note from rfl]
  decide +kernel
def dl_102_4 : List (Nat × Instr × Nat) := [(253, .aload 8, 2), (255, .invokestatic 75, 3), (258, .putfield 26, 3), (261, .iload 10, 2), (263, .aload_n 0, 1), (264, .getfield 26, 3), (267, .arraylength, 1), (268, .iconst 1, 1), (269, .isub, 1), (270, .if_icmp .ne 7, 3), (273, .iconst 1, 1), (274, .goto 4, 3), (277, .iconst 0, 1), (278, .ireturn, 1), (279, .astore 10, 2), (281, .iload 6, 2), (283, .ifCond .ne 7, 3), (286, .iconst 1, 1), (287, .goto 4, 3), (290, .iconst 0, 1), (291, .ireturn, 1)]
theorem dk_102_4 : ∀ q ∈ dl_102_4, decode (mCod (MdP 102)) q.1 = .ok q.2 := by
  rw [show mCod (MdP 102) = cX6_note from rfl]
  decide +kernel
def tb_102_0 : List (Nat × Op1) := [(0, oLdR 0 1), (1, oCallV 92 0 1 7 []), (4, oALen 14), (5, oZne 10), (8, oCI 1 1), (9, oRetZ), (10, oLdR 0 1), (11, oLdR 0 1), (12, oGetR 7 3), (15, oALen 10), (16, oCallV 90 1 3 7 []), (19, oStI 1 1), (20, oLdR 0 1), (21, oLdR 0 1), (22, oCallV 92 0 1 7 []), (25, oALen 14), (26, oCallV 90 1 3 7 []), (29, oStI 2 1), (30, oLdI 2 1), (31, oCI 1 1), (32, oAdd), (33, oLdR 0 1), (34, oCI 15 2), (36, oLdR 0 1), (37, oCallV 92 0 1 7 []), (40, oALen 14), (41, oLdI 2 1), (42, oSub), (43, oMin), (46, oCallV 90 1 3 7 []), (49, oAdd), (50, oStI 3 1), (51, oLdR 0 1), (52, oCI 3 1), (53, oCallV 90 1 3 7 []), (56, oStI 4 2), (58, oLdR 0 1), (59, oCI 1000 3), (62, oCallV 90 1 3 7 [])]
theorem sm_102_0 : ∀ q ∈ tb_102_0, SM GwP MdP D A l 102 q.1 q.2 :=
  List.forall_mem_cons.mpr ⟨sd_oLdR_n 102 0 0 0 rfl (dk_102_0 (0, .aload_n 0, 1) (List.mem_of_getElem? (i := 0) rfl)),
  List.forall_mem_cons.mpr ⟨sd_callV 102 1 92 0 1 68 7 [] (gdV hws_102 hws_92 zw368 zw369 zw370 zw362 zw367) hws_92 rfl (by decide +kernel) rfl rfl ⟨by decide +kernel, by decide +kernel, by decide +kernel⟩ ⟨by decide, by decide⟩ (catch_of (fun _ => by decide +kernel) (fun _ h => nomatch h)) RX6 rfl TX6 8 rfl ⟨by decide, by decide⟩ (dk_102_0 (1, .invokevirtual 68, 3) (List.mem_of_getElem? (i := 1) rfl)),
  List.forall_mem_cons.mpr ⟨sd_alen 102 4 14 ⟨by decide, by decide⟩ (dk_102_0 (4, .arraylength, 1) (List.mem_of_getElem? (i := 2) rfl)),
  List.forall_mem_cons.mpr ⟨sd_if_ne 102 5 5 10 (by decide) (dk_102_0 (5, .ifCond .ne 5, 3) (List.mem_of_getElem? (i := 3) rfl)),
  List.forall_mem_cons.mpr ⟨sd_iconst 102 8 1 ⟨by decide, by decide⟩ (dk_102_0 (8, .iconst 1, 1) (List.mem_of_getElem? (i := 4) rfl)),
  List.forall_mem_cons.mpr ⟨sd_zret 102 9 rfl (dk_102_0 (9, .ireturn, 1) (List.mem_of_getElem? (i := 5) rfl)),
  List.forall_mem_cons.mpr ⟨sd_oLdR_n 102 10 0 0 rfl (dk_102_0 (10, .aload_n 0, 1) (List.mem_of_getElem? (i := 6) rfl)),
  List.forall_mem_cons.mpr ⟨sd_oLdR_n 102 11 0 0 rfl (dk_102_0 (11, .aload_n 0, 1) (List.mem_of_getElem? (i := 7) rfl)),
  List.forall_mem_cons.mpr ⟨sd_oGetR 102 12 7 3 16 RX6 TX6 8 rfl ⟨by decide, by decide⟩ rfl (by decide) rfl (fun w h => iw_102 w (uz_6 w h)) rfl (iw_102 _ zw339) (dk_102_0 (12, .getfield 16, 3) (List.mem_of_getElem? (i := 8) rfl)),
  List.forall_mem_cons.mpr ⟨sd_alen 102 15 10 ⟨by decide, by decide⟩ (dk_102_0 (15, .arraylength, 1) (List.mem_of_getElem? (i := 9) rfl)),
  List.forall_mem_cons.mpr ⟨sd_callV 102 16 90 1 3 61 7 [] (gdV hws_102 hws_90 zw359 zw360 zw361 zw362 zw358) hws_90 rfl (by decide +kernel) rfl rfl ⟨by decide +kernel, by decide +kernel, by decide +kernel⟩ ⟨by decide, by decide⟩ (catch_of (fun _ => by decide +kernel) (fun _ h => nomatch h)) RX6 rfl TX6 8 rfl ⟨by decide, by decide⟩ (dk_102_0 (16, .invokevirtual 61, 3) (List.mem_of_getElem? (i := 10) rfl)),
  List.forall_mem_cons.mpr ⟨sd_oStI_n 102 19 1 1 rfl (by decide) (dk_102_0 (19, .istore_n 1, 1) (List.mem_of_getElem? (i := 11) rfl)),
  List.forall_mem_cons.mpr ⟨sd_oLdR_n 102 20 0 0 rfl (dk_102_0 (20, .aload_n 0, 1) (List.mem_of_getElem? (i := 12) rfl)),
  List.forall_mem_cons.mpr ⟨sd_oLdR_n 102 21 0 0 rfl (dk_102_0 (21, .aload_n 0, 1) (List.mem_of_getElem? (i := 13) rfl)),
  List.forall_mem_cons.mpr ⟨sd_callV 102 22 92 0 1 68 7 [] (gdV hws_102 hws_92 zw368 zw369 zw370 zw362 zw367) hws_92 rfl (by decide +kernel) rfl rfl ⟨by decide +kernel, by decide +kernel, by decide +kernel⟩ ⟨by decide, by decide⟩ (catch_of (fun _ => by decide +kernel) (fun _ h => nomatch h)) RX6 rfl TX6 8 rfl ⟨by decide, by decide⟩ (dk_102_0 (22, .invokevirtual 68, 3) (List.mem_of_getElem? (i := 14) rfl)),
  List.forall_mem_cons.mpr ⟨sd_alen 102 25 14 ⟨by decide, by decide⟩ (dk_102_0 (25, .arraylength, 1) (List.mem_of_getElem? (i := 15) rfl)),
  List.forall_mem_cons.mpr ⟨sd_callV 102 26 90 1 3 61 7 [] (gdV hws_102 hws_90 zw359 zw360 zw361 zw362 zw358) hws_90 rfl (by decide +kernel) rfl rfl ⟨by decide +kernel, by decide +kernel, by decide +kernel⟩ ⟨by decide, by decide⟩ (catch_of (fun _ => by decide +kernel) (fun _ h => nomatch h)) RX6 rfl TX6 8 rfl ⟨by decide, by decide⟩ (dk_102_0 (26, .invokevirtual 61, 3) (List.mem_of_getElem? (i := 16) rfl)),
  List.forall_mem_cons.mpr ⟨sd_oStI_n 102 29 2 2 rfl (by decide) (dk_102_0 (29, .istore_n 2, 1) (List.mem_of_getElem? (i := 17) rfl)),
  List.forall_mem_cons.mpr ⟨sd_oLdI_n 102 30 2 2 rfl (dk_102_0 (30, .iload_n 2, 1) (List.mem_of_getElem? (i := 18) rfl)),
  List.forall_mem_cons.mpr ⟨sd_iconst 102 31 1 ⟨by decide, by decide⟩ (dk_102_0 (31, .iconst 1, 1) (List.mem_of_getElem? (i := 19) rfl)),
  List.forall_mem_cons.mpr ⟨sd_iadd 102 32 (dk_102_0 (32, .iadd, 1) (List.mem_of_getElem? (i := 20) rfl)),
  List.forall_mem_cons.mpr ⟨sd_oLdR_n 102 33 0 0 rfl (dk_102_0 (33, .aload_n 0, 1) (List.mem_of_getElem? (i := 21) rfl)),
  List.forall_mem_cons.mpr ⟨sd_bipush 102 34 15 ⟨by decide, by decide⟩ (by decide) (dk_102_0 (34, .bipush 15, 2) (List.mem_of_getElem? (i := 22) rfl)),
  List.forall_mem_cons.mpr ⟨sd_oLdR_n 102 36 0 0 rfl (dk_102_0 (36, .aload_n 0, 1) (List.mem_of_getElem? (i := 23) rfl)),
  List.forall_mem_cons.mpr ⟨sd_callV 102 37 92 0 1 68 7 [] (gdV hws_102 hws_92 zw368 zw369 zw370 zw362 zw367) hws_92 rfl (by decide +kernel) rfl rfl ⟨by decide +kernel, by decide +kernel, by decide +kernel⟩ ⟨by decide, by decide⟩ (catch_of (fun _ => by decide +kernel) (fun _ h => nomatch h)) RX6 rfl TX6 8 rfl ⟨by decide, by decide⟩ (dk_102_0 (37, .invokevirtual 68, 3) (List.mem_of_getElem? (i := 24) rfl)),
  List.forall_mem_cons.mpr ⟨sd_alen 102 40 14 ⟨by decide, by decide⟩ (dk_102_0 (40, .arraylength, 1) (List.mem_of_getElem? (i := 25) rfl)),
  List.forall_mem_cons.mpr ⟨sd_oLdI_n 102 41 2 2 rfl (dk_102_0 (41, .iload_n 2, 1) (List.mem_of_getElem? (i := 26) rfl)),
  List.forall_mem_cons.mpr ⟨sd_isub 102 42 (dk_102_0 (42, .isub, 1) (List.mem_of_getElem? (i := 27) rfl)),
  List.forall_mem_cons.mpr ⟨sd_min 102 43 93 (iw_102 _ zw388) (iw_102 _ zw14) (iw_102 _ zw15) (iw_102 _ zw16) (by decide) (by decide) (dk_102_0 (43, .invokestatic 93, 3) (List.mem_of_getElem? (i := 28) rfl)),
  List.forall_mem_cons.mpr ⟨sd_callV 102 46 90 1 3 61 7 [] (gdV hws_102 hws_90 zw359 zw360 zw361 zw362 zw358) hws_90 rfl (by decide +kernel) rfl rfl ⟨by decide +kernel, by decide +kernel, by decide +kernel⟩ ⟨by decide, by decide⟩ (catch_of (fun _ => by decide +kernel) (fun _ h => nomatch h)) RX6 rfl TX6 8 rfl ⟨by decide, by decide⟩ (dk_102_0 (46, .invokevirtual 61, 3) (List.mem_of_getElem? (i := 29) rfl)),
  List.forall_mem_cons.mpr ⟨sd_iadd 102 49 (dk_102_0 (49, .iadd, 1) (List.mem_of_getElem? (i := 30) rfl)),
  List.forall_mem_cons.mpr ⟨sd_oStI_n 102 50 3 3 rfl (by decide) (dk_102_0 (50, .istore_n 3, 1) (List.mem_of_getElem? (i := 31) rfl)),
  List.forall_mem_cons.mpr ⟨sd_oLdR_n 102 51 0 0 rfl (dk_102_0 (51, .aload_n 0, 1) (List.mem_of_getElem? (i := 32) rfl)),
  List.forall_mem_cons.mpr ⟨sd_iconst 102 52 3 ⟨by decide, by decide⟩ (dk_102_0 (52, .iconst 3, 1) (List.mem_of_getElem? (i := 33) rfl)),
  List.forall_mem_cons.mpr ⟨sd_callV 102 53 90 1 3 61 7 [] (gdV hws_102 hws_90 zw359 zw360 zw361 zw362 zw358) hws_90 rfl (by decide +kernel) rfl rfl ⟨by decide +kernel, by decide +kernel, by decide +kernel⟩ ⟨by decide, by decide⟩ (catch_of (fun _ => by decide +kernel) (fun _ h => nomatch h)) RX6 rfl TX6 8 rfl ⟨by decide, by decide⟩ (dk_102_0 (53, .invokevirtual 61, 3) (List.mem_of_getElem? (i := 34) rfl)),
  List.forall_mem_cons.mpr ⟨sd_oStI 102 56 4 (by decide) (dk_102_0 (56, .istore 4, 2) (List.mem_of_getElem? (i := 35) rfl)),
  List.forall_mem_cons.mpr ⟨sd_oLdR_n 102 58 0 0 rfl (dk_102_0 (58, .aload_n 0, 1) (List.mem_of_getElem? (i := 36) rfl)),
  List.forall_mem_cons.mpr ⟨sd_sipush 102 59 1000 ⟨by decide, by decide⟩ (by decide) (dk_102_0 (59, .sipush 1000, 3) (List.mem_of_getElem? (i := 37) rfl)),
  List.forall_mem_cons.mpr ⟨sd_callV 102 62 90 1 3 61 7 [] (gdV hws_102 hws_90 zw359 zw360 zw361 zw362 zw358) hws_90 rfl (by decide +kernel) rfl rfl ⟨by decide +kernel, by decide +kernel, by decide +kernel⟩ ⟨by decide, by decide⟩ (catch_of (fun _ => by decide +kernel) (fun _ h => nomatch h)) RX6 rfl TX6 8 rfl ⟨by decide, by decide⟩ (dk_102_0 (62, .invokevirtual 61, 3) (List.mem_of_getElem? (i := 38) rfl)),
  fun _ h => nomatch h⟩⟩⟩⟩⟩⟩⟩⟩⟩⟩⟩⟩⟩⟩⟩⟩⟩⟩⟩⟩⟩⟩⟩⟩⟩⟩⟩⟩⟩⟩⟩⟩⟩⟩⟩⟩⟩⟩⟩
def tb_102_1 : List (Nat × Op1) := [(65, oStI 5 2), (67, oLdR 0 1), (68, oGetR 7 3), (71, oLdI 1 1), (72, oALdI 10), (73, oCI 2 1), (74, oClt 91), (77, oLdR 0 1), (78, oGetR 7 6), (81, oALen 14), (82, oCI 60 2), (84, oCge 91), (87, oCI 1 1), (88, oGoto 92), (91, oCI 0 1), (92, oStI 6 2), (94, oCI 12 2), (96, oLdI 3 1), (97, oLdI 2 1), (98, oSub), (99, oMin), (102, oStI 7 2), (104, oCI 11 2), (106, oLdI 7 2), (108, oAdd), (109, oNewA 10 2), (111, oStR 8 2), (113, oCI 11 2), (115, oNewA 10 2), (117, oDup), (118, oCI 0 1), (119, oLdI 1 1), (120, oAStI), (121, oDup), (122, oCI 1 1), (123, oLdI 5 2), (125, oAStI), (126, oDup), (127, oCI 2 1)]
theorem sm_102_1 : ∀ q ∈ tb_102_1, SM GwP MdP D A l 102 q.1 q.2 :=
  List.forall_mem_cons.mpr ⟨sd_oStI 102 65 5 (by decide) (dk_102_0 (65, .istore 5, 2) (List.mem_of_getElem? (i := 39) rfl)),
  List.forall_mem_cons.mpr ⟨sd_oLdR_n 102 67 0 0 rfl (dk_102_1 (67, .aload_n 0, 1) (List.mem_of_getElem? (i := 0) rfl)),
  List.forall_mem_cons.mpr ⟨sd_oGetR 102 68 7 3 16 RX6 TX6 8 rfl ⟨by decide, by decide⟩ rfl (by decide) rfl (fun w h => iw_102 w (uz_6 w h)) rfl (iw_102 _ zw339) (dk_102_1 (68, .getfield 16, 3) (List.mem_of_getElem? (i := 1) rfl)),
  List.forall_mem_cons.mpr ⟨sd_oLdI_n 102 71 1 1 rfl (dk_102_1 (71, .iload_n 1, 1) (List.mem_of_getElem? (i := 2) rfl)),
  List.forall_mem_cons.mpr ⟨sd_iald 102 72 (dk_102_1 (72, .iaload, 1) (List.mem_of_getElem? (i := 3) rfl)),
  List.forall_mem_cons.mpr ⟨sd_iconst 102 73 2 ⟨by decide, by decide⟩ (dk_102_1 (73, .iconst 2, 1) (List.mem_of_getElem? (i := 4) rfl)),
  List.forall_mem_cons.mpr ⟨sd_icmp_lt 102 74 17 91 (by decide) (dk_102_1 (74, .if_icmp .lt 17, 3) (List.mem_of_getElem? (i := 5) rfl)),
  List.forall_mem_cons.mpr ⟨sd_oLdR_n 102 77 0 0 rfl (dk_102_1 (77, .aload_n 0, 1) (List.mem_of_getElem? (i := 6) rfl)),
  List.forall_mem_cons.mpr ⟨sd_oGetR 102 78 7 6 26 RX6 TX6 8 rfl ⟨by decide, by decide⟩ rfl (by decide) rfl (fun w h => iw_102 w (uz_6 w h)) rfl (iw_102 _ zw343) (dk_102_1 (78, .getfield 26, 3) (List.mem_of_getElem? (i := 7) rfl)),
  List.forall_mem_cons.mpr ⟨sd_alen 102 81 14 ⟨by decide, by decide⟩ (dk_102_1 (81, .arraylength, 1) (List.mem_of_getElem? (i := 8) rfl)),
  List.forall_mem_cons.mpr ⟨sd_bipush 102 82 60 ⟨by decide, by decide⟩ (by decide) (dk_102_1 (82, .bipush 60, 2) (List.mem_of_getElem? (i := 9) rfl)),
  List.forall_mem_cons.mpr ⟨sd_icmp_ge 102 84 7 91 (by decide) (dk_102_1 (84, .if_icmp .ge 7, 3) (List.mem_of_getElem? (i := 10) rfl)),
  List.forall_mem_cons.mpr ⟨sd_iconst 102 87 1 ⟨by decide, by decide⟩ (dk_102_1 (87, .iconst 1, 1) (List.mem_of_getElem? (i := 11) rfl)),
  List.forall_mem_cons.mpr ⟨sd_goto 102 88 4 92 (by decide) (dk_102_1 (88, .goto 4, 3) (List.mem_of_getElem? (i := 12) rfl)),
  List.forall_mem_cons.mpr ⟨sd_iconst 102 91 0 ⟨by decide, by decide⟩ (dk_102_1 (91, .iconst 0, 1) (List.mem_of_getElem? (i := 13) rfl)),
  List.forall_mem_cons.mpr ⟨sd_oStI 102 92 6 (by decide) (dk_102_1 (92, .istore 6, 2) (List.mem_of_getElem? (i := 14) rfl)),
  List.forall_mem_cons.mpr ⟨sd_bipush 102 94 12 ⟨by decide, by decide⟩ (by decide) (dk_102_1 (94, .bipush 12, 2) (List.mem_of_getElem? (i := 15) rfl)),
  List.forall_mem_cons.mpr ⟨sd_oLdI_n 102 96 3 3 rfl (dk_102_1 (96, .iload_n 3, 1) (List.mem_of_getElem? (i := 16) rfl)),
  List.forall_mem_cons.mpr ⟨sd_oLdI_n 102 97 2 2 rfl (dk_102_1 (97, .iload_n 2, 1) (List.mem_of_getElem? (i := 17) rfl)),
  List.forall_mem_cons.mpr ⟨sd_isub 102 98 (dk_102_1 (98, .isub, 1) (List.mem_of_getElem? (i := 18) rfl)),
  List.forall_mem_cons.mpr ⟨sd_min 102 99 93 (iw_102 _ zw388) (iw_102 _ zw14) (iw_102 _ zw15) (iw_102 _ zw16) (by decide) (by decide) (dk_102_1 (99, .invokestatic 93, 3) (List.mem_of_getElem? (i := 19) rfl)),
  List.forall_mem_cons.mpr ⟨sd_oStI 102 102 7 (by decide) (dk_102_1 (102, .istore 7, 2) (List.mem_of_getElem? (i := 20) rfl)),
  List.forall_mem_cons.mpr ⟨sd_bipush 102 104 11 ⟨by decide, by decide⟩ (by decide) (dk_102_1 (104, .bipush 11, 2) (List.mem_of_getElem? (i := 21) rfl)),
  List.forall_mem_cons.mpr ⟨sd_oLdI 102 106 7 (dk_102_1 (106, .iload 7, 2) (List.mem_of_getElem? (i := 22) rfl)),
  List.forall_mem_cons.mpr ⟨sd_iadd 102 108 (dk_102_1 (108, .iadd, 1) (List.mem_of_getElem? (i := 23) rfl)),
  List.forall_mem_cons.mpr ⟨sd_newA 102 109 10 .int (Or.inl ⟨rfl, rfl⟩) (iw_102 _ zw22) (dk_102_1 (109, .newarray .int, 2) (List.mem_of_getElem? (i := 24) rfl)),
  List.forall_mem_cons.mpr ⟨sd_oStR 102 111 8 (by decide) (dk_102_1 (111, .astore 8, 2) (List.mem_of_getElem? (i := 25) rfl)),
  List.forall_mem_cons.mpr ⟨sd_bipush 102 113 11 ⟨by decide, by decide⟩ (by decide) (dk_102_1 (113, .bipush 11, 2) (List.mem_of_getElem? (i := 26) rfl)),
  List.forall_mem_cons.mpr ⟨sd_newA 102 115 10 .int (Or.inl ⟨rfl, rfl⟩) (iw_102 _ zw22) (dk_102_1 (115, .newarray .int, 2) (List.mem_of_getElem? (i := 27) rfl)),
  List.forall_mem_cons.mpr ⟨sd_dup 102 117 (dk_102_1 (117, .dup, 1) (List.mem_of_getElem? (i := 28) rfl)),
  List.forall_mem_cons.mpr ⟨sd_iconst 102 118 0 ⟨by decide, by decide⟩ (dk_102_1 (118, .iconst 0, 1) (List.mem_of_getElem? (i := 29) rfl)),
  List.forall_mem_cons.mpr ⟨sd_oLdI_n 102 119 1 1 rfl (dk_102_1 (119, .iload_n 1, 1) (List.mem_of_getElem? (i := 30) rfl)),
  List.forall_mem_cons.mpr ⟨sd_iast 102 120 (dk_102_1 (120, .iastore, 1) (List.mem_of_getElem? (i := 31) rfl)),
  List.forall_mem_cons.mpr ⟨sd_dup 102 121 (dk_102_1 (121, .dup, 1) (List.mem_of_getElem? (i := 32) rfl)),
  List.forall_mem_cons.mpr ⟨sd_iconst 102 122 1 ⟨by decide, by decide⟩ (dk_102_1 (122, .iconst 1, 1) (List.mem_of_getElem? (i := 33) rfl)),
  List.forall_mem_cons.mpr ⟨sd_oLdI 102 123 5 (dk_102_1 (123, .iload 5, 2) (List.mem_of_getElem? (i := 34) rfl)),
  List.forall_mem_cons.mpr ⟨sd_iast 102 125 (dk_102_1 (125, .iastore, 1) (List.mem_of_getElem? (i := 35) rfl)),
  List.forall_mem_cons.mpr ⟨sd_dup 102 126 (dk_102_1 (126, .dup, 1) (List.mem_of_getElem? (i := 36) rfl)),
  List.forall_mem_cons.mpr ⟨sd_iconst 102 127 2 ⟨by decide, by decide⟩ (dk_102_1 (127, .iconst 2, 1) (List.mem_of_getElem? (i := 37) rfl)),
  fun _ h => nomatch h⟩⟩⟩⟩⟩⟩⟩⟩⟩⟩⟩⟩⟩⟩⟩⟩⟩⟩⟩⟩⟩⟩⟩⟩⟩⟩⟩⟩⟩⟩⟩⟩⟩⟩⟩⟩⟩⟩⟩
def tb_102_2 : List (Nat × Op1) := [(128, oCI (-1) 1), (129, oAStI), (130, oDup), (131, oCI 3 1), (132, oLdR 0 1), (133, oGetR 7 6), (136, oALen 14), (137, oAStI), (138, oDup), (139, oCI 4 1), (140, oCI 0 1), (141, oAStI), (142, oDup), (143, oCI 5 1), (144, oLdI 2 1), (145, oAStI), (146, oDup), (147, oCI 6 2), (149, oLdI 3 1), (150, oAStI), (151, oDup), (152, oCI 7 2), (154, oLdI 4 2), (156, oAStI), (157, oDup), (158, oCI 8 2), (160, oCI 0 1), (161, oAStI), (162, oDup), (163, oCI 9 2), (165, oCI (-1) 1), (166, oAStI), (167, oDup), (168, oCI 10 2), (170, oCI 0 1), (171, oAStI), (172, oStR 9 2), (174, oLdR 9 2), (176, oCI 0 1), (177, oLdR 8 2), (179, oCI 0 1), (180, oCI 11 2), (182, oCpy), (185, oCI 0 1), (186, oStI 10 2), (188, oLdI 10 2), (190, oLdI 7 2)]
theorem sm_102_2 : ∀ q ∈ tb_102_2, SM GwP MdP D A l 102 q.1 q.2 :=
  List.forall_mem_cons.mpr ⟨sd_iconst 102 128 (-1) ⟨by decide, by decide⟩ (dk_102_1 (128, .iconst (-1), 1) (List.mem_of_getElem? (i := 38) rfl)),
  List.forall_mem_cons.mpr ⟨sd_iast 102 129 (dk_102_1 (129, .iastore, 1) (List.mem_of_getElem? (i := 39) rfl)),
  List.forall_mem_cons.mpr ⟨sd_dup 102 130 (dk_102_2 (130, .dup, 1) (List.mem_of_getElem? (i := 0) rfl)),
  List.forall_mem_cons.mpr ⟨sd_iconst 102 131 3 ⟨by decide, by decide⟩ (dk_102_2 (131, .iconst 3, 1) (List.mem_of_getElem? (i := 1) rfl)),
  List.forall_mem_cons.mpr ⟨sd_oLdR_n 102 132 0 0 rfl (dk_102_2 (132, .aload_n 0, 1) (List.mem_of_getElem? (i := 2) rfl)),
  List.forall_mem_cons.mpr ⟨sd_oGetR 102 133 7 6 26 RX6 TX6 8 rfl ⟨by decide, by decide⟩ rfl (by decide) rfl (fun w h => iw_102 w (uz_6 w h)) rfl (iw_102 _ zw343) (dk_102_2 (133, .getfield 26, 3) (List.mem_of_getElem? (i := 3) rfl)),
  List.forall_mem_cons.mpr ⟨sd_alen 102 136 14 ⟨by decide, by decide⟩ (dk_102_2 (136, .arraylength, 1) (List.mem_of_getElem? (i := 4) rfl)),
  List.forall_mem_cons.mpr ⟨sd_iast 102 137 (dk_102_2 (137, .iastore, 1) (List.mem_of_getElem? (i := 5) rfl)),
  List.forall_mem_cons.mpr ⟨sd_dup 102 138 (dk_102_2 (138, .dup, 1) (List.mem_of_getElem? (i := 6) rfl)),
  List.forall_mem_cons.mpr ⟨sd_iconst 102 139 4 ⟨by decide, by decide⟩ (dk_102_2 (139, .iconst 4, 1) (List.mem_of_getElem? (i := 7) rfl)),
  List.forall_mem_cons.mpr ⟨sd_iconst 102 140 0 ⟨by decide, by decide⟩ (dk_102_2 (140, .iconst 0, 1) (List.mem_of_getElem? (i := 8) rfl)),
  List.forall_mem_cons.mpr ⟨sd_iast 102 141 (dk_102_2 (141, .iastore, 1) (List.mem_of_getElem? (i := 9) rfl)),
  List.forall_mem_cons.mpr ⟨sd_dup 102 142 (dk_102_2 (142, .dup, 1) (List.mem_of_getElem? (i := 10) rfl)),
  List.forall_mem_cons.mpr ⟨sd_iconst 102 143 5 ⟨by decide, by decide⟩ (dk_102_2 (143, .iconst 5, 1) (List.mem_of_getElem? (i := 11) rfl)),
  List.forall_mem_cons.mpr ⟨sd_oLdI_n 102 144 2 2 rfl (dk_102_2 (144, .iload_n 2, 1) (List.mem_of_getElem? (i := 12) rfl)),
  List.forall_mem_cons.mpr ⟨sd_iast 102 145 (dk_102_2 (145, .iastore, 1) (List.mem_of_getElem? (i := 13) rfl)),
  List.forall_mem_cons.mpr ⟨sd_dup 102 146 (dk_102_2 (146, .dup, 1) (List.mem_of_getElem? (i := 14) rfl)),
  List.forall_mem_cons.mpr ⟨sd_bipush 102 147 6 ⟨by decide, by decide⟩ (by decide) (dk_102_2 (147, .bipush 6, 2) (List.mem_of_getElem? (i := 15) rfl)),
  List.forall_mem_cons.mpr ⟨sd_oLdI_n 102 149 3 3 rfl (dk_102_2 (149, .iload_n 3, 1) (List.mem_of_getElem? (i := 16) rfl)),
  List.forall_mem_cons.mpr ⟨sd_iast 102 150 (dk_102_2 (150, .iastore, 1) (List.mem_of_getElem? (i := 17) rfl)),
  List.forall_mem_cons.mpr ⟨sd_dup 102 151 (dk_102_2 (151, .dup, 1) (List.mem_of_getElem? (i := 18) rfl)),
  List.forall_mem_cons.mpr ⟨sd_bipush 102 152 7 ⟨by decide, by decide⟩ (by decide) (dk_102_2 (152, .bipush 7, 2) (List.mem_of_getElem? (i := 19) rfl)),
  List.forall_mem_cons.mpr ⟨sd_oLdI 102 154 4 (dk_102_2 (154, .iload 4, 2) (List.mem_of_getElem? (i := 20) rfl)),
  List.forall_mem_cons.mpr ⟨sd_iast 102 156 (dk_102_2 (156, .iastore, 1) (List.mem_of_getElem? (i := 21) rfl)),
  List.forall_mem_cons.mpr ⟨sd_dup 102 157 (dk_102_2 (157, .dup, 1) (List.mem_of_getElem? (i := 22) rfl)),
  List.forall_mem_cons.mpr ⟨sd_bipush 102 158 8 ⟨by decide, by decide⟩ (by decide) (dk_102_2 (158, .bipush 8, 2) (List.mem_of_getElem? (i := 23) rfl)),
  List.forall_mem_cons.mpr ⟨sd_iconst 102 160 0 ⟨by decide, by decide⟩ (dk_102_2 (160, .iconst 0, 1) (List.mem_of_getElem? (i := 24) rfl)),
  List.forall_mem_cons.mpr ⟨sd_iast 102 161 (dk_102_2 (161, .iastore, 1) (List.mem_of_getElem? (i := 25) rfl)),
  List.forall_mem_cons.mpr ⟨sd_dup 102 162 (dk_102_2 (162, .dup, 1) (List.mem_of_getElem? (i := 26) rfl)),
  List.forall_mem_cons.mpr ⟨sd_bipush 102 163 9 ⟨by decide, by decide⟩ (by decide) (dk_102_2 (163, .bipush 9, 2) (List.mem_of_getElem? (i := 27) rfl)),
  List.forall_mem_cons.mpr ⟨sd_iconst 102 165 (-1) ⟨by decide, by decide⟩ (dk_102_2 (165, .iconst (-1), 1) (List.mem_of_getElem? (i := 28) rfl)),
  List.forall_mem_cons.mpr ⟨sd_iast 102 166 (dk_102_2 (166, .iastore, 1) (List.mem_of_getElem? (i := 29) rfl)),
  List.forall_mem_cons.mpr ⟨sd_dup 102 167 (dk_102_2 (167, .dup, 1) (List.mem_of_getElem? (i := 30) rfl)),
  List.forall_mem_cons.mpr ⟨sd_bipush 102 168 10 ⟨by decide, by decide⟩ (by decide) (dk_102_2 (168, .bipush 10, 2) (List.mem_of_getElem? (i := 31) rfl)),
  List.forall_mem_cons.mpr ⟨sd_iconst 102 170 0 ⟨by decide, by decide⟩ (dk_102_2 (170, .iconst 0, 1) (List.mem_of_getElem? (i := 32) rfl)),
  List.forall_mem_cons.mpr ⟨sd_iast 102 171 (dk_102_2 (171, .iastore, 1) (List.mem_of_getElem? (i := 33) rfl)),
  List.forall_mem_cons.mpr ⟨sd_oStR 102 172 9 (by decide) (dk_102_2 (172, .astore 9, 2) (List.mem_of_getElem? (i := 34) rfl)),
  List.forall_mem_cons.mpr ⟨sd_oLdR 102 174 9 (dk_102_2 (174, .aload 9, 2) (List.mem_of_getElem? (i := 35) rfl)),
  List.forall_mem_cons.mpr ⟨sd_iconst 102 176 0 ⟨by decide, by decide⟩ (dk_102_2 (176, .iconst 0, 1) (List.mem_of_getElem? (i := 36) rfl)),
  List.forall_mem_cons.mpr ⟨sd_oLdR 102 177 8 (dk_102_2 (177, .aload 8, 2) (List.mem_of_getElem? (i := 37) rfl)),
  List.forall_mem_cons.mpr ⟨sd_iconst 102 179 0 ⟨by decide, by decide⟩ (dk_102_2 (179, .iconst 0, 1) (List.mem_of_getElem? (i := 38) rfl)),
  List.forall_mem_cons.mpr ⟨sd_bipush 102 180 11 ⟨by decide, by decide⟩ (by decide) (dk_102_2 (180, .bipush 11, 2) (List.mem_of_getElem? (i := 39) rfl)),
  List.forall_mem_cons.mpr ⟨sd_cpy 102 182 50 (iw_102 _ zw352) (iw_102 _ zw70) (iw_102 _ zw71) (iw_102 _ zw72) (by decide) (by decide) (dk_102_3 (182, .invokestatic 50, 3) (List.mem_of_getElem? (i := 0) rfl)),
  List.forall_mem_cons.mpr ⟨sd_iconst 102 185 0 ⟨by decide, by decide⟩ (dk_102_3 (185, .iconst 0, 1) (List.mem_of_getElem? (i := 1) rfl)),
  List.forall_mem_cons.mpr ⟨sd_oStI 102 186 10 (by decide) (dk_102_3 (186, .istore 10, 2) (List.mem_of_getElem? (i := 2) rfl)),
  List.forall_mem_cons.mpr ⟨sd_oLdI 102 188 10 (dk_102_3 (188, .iload 10, 2) (List.mem_of_getElem? (i := 3) rfl)),
  List.forall_mem_cons.mpr ⟨sd_oLdI 102 190 7 (dk_102_3 (190, .iload 7, 2) (List.mem_of_getElem? (i := 4) rfl)),
  fun _ h => nomatch h⟩⟩⟩⟩⟩⟩⟩⟩⟩⟩⟩⟩⟩⟩⟩⟩⟩⟩⟩⟩⟩⟩⟩⟩⟩⟩⟩⟩⟩⟩⟩⟩⟩⟩⟩⟩⟩⟩⟩⟩⟩⟩⟩⟩⟩⟩⟩
def tb_102_3 : List (Nat × Op1) := [(192, oCge 220), (195, oLdR 8 2), (197, oCI 11 2), (199, oLdI 10 2), (201, oAdd), (202, oLdR 0 1), (203, oCallV 92 0 1 7 []), (206, oLdI 2 1), (207, oLdI 10 2), (209, oAdd), (210, oALdR 14), (211, oCI 1 1), (212, oALdI 10), (213, oAStI), (214, oInc 10 1), (217, oGoto 188), (220, oLdR 0 1), (221, oGetR 7 0), (224, oLdI 1 1), (225, oLdI 2 1), (226, oLdI 3 1), (227, oLdI 4 2), (229, oLdI 5 2), (231, oCallV 40 5 7 6 [(2, 279)]), (234, oStI 10 2), (236, oLdI 6 2), (238, oZne 243), (241, oCI 0 1), (242, oRetZ), (243, oLdR 0 1), (244, oLdR 0 1), (245, oGetR 7 6), (248, oLdR 0 1), (249, oGetR 7 6), (252, oALen 14), (253, oLdR 8 2), (255, oCallS 91 3 4 [(2, 279)])]
theorem sm_102_3 : ∀ q ∈ tb_102_3, SM GwP MdP D A l 102 q.1 q.2 :=
  List.forall_mem_cons.mpr ⟨sd_icmp_ge 102 192 28 220 (by decide) (dk_102_3 (192, .if_icmp .ge 28, 3) (List.mem_of_getElem? (i := 5) rfl)),
  List.forall_mem_cons.mpr ⟨sd_oLdR 102 195 8 (dk_102_3 (195, .aload 8, 2) (List.mem_of_getElem? (i := 6) rfl)),
  List.forall_mem_cons.mpr ⟨sd_bipush 102 197 11 ⟨by decide, by decide⟩ (by decide) (dk_102_3 (197, .bipush 11, 2) (List.mem_of_getElem? (i := 7) rfl)),
  List.forall_mem_cons.mpr ⟨sd_oLdI 102 199 10 (dk_102_3 (199, .iload 10, 2) (List.mem_of_getElem? (i := 8) rfl)),
  List.forall_mem_cons.mpr ⟨sd_iadd 102 201 (dk_102_3 (201, .iadd, 1) (List.mem_of_getElem? (i := 9) rfl)),
  List.forall_mem_cons.mpr ⟨sd_oLdR_n 102 202 0 0 rfl (dk_102_3 (202, .aload_n 0, 1) (List.mem_of_getElem? (i := 10) rfl)),
  List.forall_mem_cons.mpr ⟨sd_callV 102 203 92 0 1 68 7 [] (gdV hws_102 hws_92 zw368 zw369 zw370 zw362 zw367) hws_92 rfl (by decide +kernel) rfl rfl ⟨by decide +kernel, by decide +kernel, by decide +kernel⟩ ⟨by decide, by decide⟩ (catch_of (fun _ => by decide +kernel) (fun _ h => nomatch h)) RX6 rfl TX6 8 rfl ⟨by decide, by decide⟩ (dk_102_3 (203, .invokevirtual 68, 3) (List.mem_of_getElem? (i := 11) rfl)),
  List.forall_mem_cons.mpr ⟨sd_oLdI_n 102 206 2 2 rfl (dk_102_3 (206, .iload_n 2, 1) (List.mem_of_getElem? (i := 12) rfl)),
  List.forall_mem_cons.mpr ⟨sd_oLdI 102 207 10 (dk_102_3 (207, .iload 10, 2) (List.mem_of_getElem? (i := 13) rfl)),
  List.forall_mem_cons.mpr ⟨sd_iadd 102 209 (dk_102_3 (209, .iadd, 1) (List.mem_of_getElem? (i := 14) rfl)),
  List.forall_mem_cons.mpr ⟨sd_aaldA 102 210 (dk_102_3 (210, .aaload, 1) (List.mem_of_getElem? (i := 15) rfl)),
  List.forall_mem_cons.mpr ⟨sd_iconst 102 211 1 ⟨by decide, by decide⟩ (dk_102_3 (211, .iconst 1, 1) (List.mem_of_getElem? (i := 16) rfl)),
  List.forall_mem_cons.mpr ⟨sd_iald 102 212 (dk_102_3 (212, .iaload, 1) (List.mem_of_getElem? (i := 17) rfl)),
  List.forall_mem_cons.mpr ⟨sd_iast 102 213 (dk_102_3 (213, .iastore, 1) (List.mem_of_getElem? (i := 18) rfl)),
  List.forall_mem_cons.mpr ⟨sd_iinc 102 214 10 1 (by decide) (dk_102_3 (214, .iinc 10 1, 3) (List.mem_of_getElem? (i := 19) rfl)),
  List.forall_mem_cons.mpr ⟨sd_goto 102 217 (-29) 188 (by decide) (dk_102_3 (217, .goto (-29), 3) (List.mem_of_getElem? (i := 20) rfl)),
  List.forall_mem_cons.mpr ⟨sd_oLdR_n 102 220 0 0 rfl (dk_102_3 (220, .aload_n 0, 1) (List.mem_of_getElem? (i := 21) rfl)),
  List.forall_mem_cons.mpr ⟨sd_oGetR 102 221 7 0 10 RX6 TX6 8 rfl ⟨by decide, by decide⟩ rfl (by decide) rfl (fun w h => iw_102 w (uz_6 w h)) rfl (iw_102 _ zw338) (dk_102_3 (221, .getfield 10, 3) (List.mem_of_getElem? (i := 22) rfl)),
  List.forall_mem_cons.mpr ⟨sd_oLdI_n 102 224 1 1 rfl (dk_102_3 (224, .iload_n 1, 1) (List.mem_of_getElem? (i := 23) rfl)),
  List.forall_mem_cons.mpr ⟨sd_oLdI_n 102 225 2 2 rfl (dk_102_3 (225, .iload_n 2, 1) (List.mem_of_getElem? (i := 24) rfl)),
  List.forall_mem_cons.mpr ⟨sd_oLdI_n 102 226 3 3 rfl (dk_102_3 (226, .iload_n 3, 1) (List.mem_of_getElem? (i := 25) rfl)),
  List.forall_mem_cons.mpr ⟨sd_oLdI 102 227 4 (dk_102_3 (227, .iload 4, 2) (List.mem_of_getElem? (i := 26) rfl)),
  List.forall_mem_cons.mpr ⟨sd_oLdI 102 229 5 (dk_102_3 (229, .iload 5, 2) (List.mem_of_getElem? (i := 27) rfl)),
  List.forall_mem_cons.mpr ⟨sd_callV 102 231 40 5 7 109 6 [(2, 279)] (gdV hws_102 hws_40 zw402 zw403 zw404 zw63 zw401) hws_40 rfl (by decide +kernel) rfl rfl ⟨by decide +kernel, by decide +kernel, by decide +kernel⟩ ⟨by decide, by decide⟩ (catch_of (fun h => nomatch h) (List.forall_mem_cons.mpr ⟨⟨[], ⟨220, 242, 279, 91⟩, [⟨243, 278, 279, 91⟩], "java/lang/IllegalStateException", rfl, (fun _ h => nomatch h), by decide, by decide, (iw_102 _ zw379), List.mem_of_getElem? (i := 1) rfl, rfl⟩, (fun _ h => nomatch h)⟩)) RX5 rfl TX5 7 rfl ⟨by decide, by decide⟩ (dk_102_3 (231, .invokevirtual 109, 3) (List.mem_of_getElem? (i := 28) rfl)),
  List.forall_mem_cons.mpr ⟨sd_oStI 102 234 10 (by decide) (dk_102_3 (234, .istore 10, 2) (List.mem_of_getElem? (i := 29) rfl)),
  List.forall_mem_cons.mpr ⟨sd_oLdI 102 236 6 (dk_102_3 (236, .iload 6, 2) (List.mem_of_getElem? (i := 30) rfl)),
  List.forall_mem_cons.mpr ⟨sd_if_ne 102 238 5 243 (by decide) (dk_102_3 (238, .ifCond .ne 5, 3) (List.mem_of_getElem? (i := 31) rfl)),
  List.forall_mem_cons.mpr ⟨sd_iconst 102 241 0 ⟨by decide, by decide⟩ (dk_102_3 (241, .iconst 0, 1) (List.mem_of_getElem? (i := 32) rfl)),
  List.forall_mem_cons.mpr ⟨sd_zret 102 242 rfl (dk_102_3 (242, .ireturn, 1) (List.mem_of_getElem? (i := 33) rfl)),
  List.forall_mem_cons.mpr ⟨sd_oLdR_n 102 243 0 0 rfl (dk_102_3 (243, .aload_n 0, 1) (List.mem_of_getElem? (i := 34) rfl)),
  List.forall_mem_cons.mpr ⟨sd_oLdR_n 102 244 0 0 rfl (dk_102_3 (244, .aload_n 0, 1) (List.mem_of_getElem? (i := 35) rfl)),
  List.forall_mem_cons.mpr ⟨sd_oGetR 102 245 7 6 26 RX6 TX6 8 rfl ⟨by decide, by decide⟩ rfl (by decide) rfl (fun w h => iw_102 w (uz_6 w h)) rfl (iw_102 _ zw343) (dk_102_3 (245, .getfield 26, 3) (List.mem_of_getElem? (i := 36) rfl)),
  List.forall_mem_cons.mpr ⟨sd_oLdR_n 102 248 0 0 rfl (dk_102_3 (248, .aload_n 0, 1) (List.mem_of_getElem? (i := 37) rfl)),
  List.forall_mem_cons.mpr ⟨sd_oGetR 102 249 7 6 26 RX6 TX6 8 rfl ⟨by decide, by decide⟩ rfl (by decide) rfl (fun w h => iw_102 w (uz_6 w h)) rfl (iw_102 _ zw343) (dk_102_3 (249, .getfield 26, 3) (List.mem_of_getElem? (i := 38) rfl)),
  List.forall_mem_cons.mpr ⟨sd_alen 102 252 14 ⟨by decide, by decide⟩ (dk_102_3 (252, .arraylength, 1) (List.mem_of_getElem? (i := 39) rfl)),
  List.forall_mem_cons.mpr ⟨sd_oLdR 102 253 8 (dk_102_4 (253, .aload 8, 2) (List.mem_of_getElem? (i := 0) rfl)),
  List.forall_mem_cons.mpr ⟨sd_callS 102 255 91 3 4 75 [(2, 279)] (gdS hws_102 hws_91 zw373 zw374 zw362 zw372) hws_91 rfl (by decide +kernel) rfl rfl ⟨by decide +kernel, by decide +kernel, by decide +kernel⟩ ⟨by decide, by decide⟩ (catch_of (fun h => nomatch h) (List.forall_mem_cons.mpr ⟨⟨[⟨220, 242, 279, 91⟩], ⟨243, 278, 279, 91⟩, [], "java/lang/IllegalStateException", rfl, (List.forall_mem_cons.mpr ⟨Or.inl (by decide), (fun _ h => nomatch h)⟩), by decide, by decide, (iw_102 _ zw379), List.mem_of_getElem? (i := 1) rfl, rfl⟩, (fun _ h => nomatch h)⟩)) (dk_102_4 (255, .invokestatic 75, 3) (List.mem_of_getElem? (i := 1) rfl)),
  fun _ h => nomatch h⟩⟩⟩⟩⟩⟩⟩⟩⟩⟩⟩⟩⟩⟩⟩⟩⟩⟩⟩⟩⟩⟩⟩⟩⟩⟩⟩⟩⟩⟩⟩⟩⟩⟩⟩⟩⟩
def tb_102_4 : List (Nat × Op1) := [(258, oPutR 7 6), (261, oLdI 10 2), (263, oLdR 0 1), (264, oGetR 7 6), (267, oALen 14), (268, oCI 1 1), (269, oSub), (270, oCne 277), (273, oCI 1 1), (274, oGoto 278), (277, oCI 0 1), (278, oRetZ), (279, oStR 10 2), (281, oLdI 6 2), (283, oZne 290), (286, oCI 1 1), (287, oGoto 291), (290, oCI 0 1), (291, oRetZ)]
theorem sm_102_4 : ∀ q ∈ tb_102_4, SM GwP MdP D A l 102 q.1 q.2 :=
  List.forall_mem_cons.mpr ⟨sd_oPutR 102 258 7 6 26 RX6 TX6 8 rfl ⟨by decide, by decide⟩ rfl (by decide) rfl (fun w h => iw_102 w (uz_6 w h)) rfl tyX6 tyX6_ok nmX6 (Or.inr ⟨_, rfl⟩) rfl (iw_102 _ zw343) (dk_102_4 (258, .putfield 26, 3) (List.mem_of_getElem? (i := 2) rfl)),
  List.forall_mem_cons.mpr ⟨sd_oLdI 102 261 10 (dk_102_4 (261, .iload 10, 2) (List.mem_of_getElem? (i := 3) rfl)),
  List.forall_mem_cons.mpr ⟨sd_oLdR_n 102 263 0 0 rfl (dk_102_4 (263, .aload_n 0, 1) (List.mem_of_getElem? (i := 4) rfl)),
  List.forall_mem_cons.mpr ⟨sd_oGetR 102 264 7 6 26 RX6 TX6 8 rfl ⟨by decide, by decide⟩ rfl (by decide) rfl (fun w h => iw_102 w (uz_6 w h)) rfl (iw_102 _ zw343) (dk_102_4 (264, .getfield 26, 3) (List.mem_of_getElem? (i := 5) rfl)),
  List.forall_mem_cons.mpr ⟨sd_alen 102 267 14 ⟨by decide, by decide⟩ (dk_102_4 (267, .arraylength, 1) (List.mem_of_getElem? (i := 6) rfl)),
  List.forall_mem_cons.mpr ⟨sd_iconst 102 268 1 ⟨by decide, by decide⟩ (dk_102_4 (268, .iconst 1, 1) (List.mem_of_getElem? (i := 7) rfl)),
  List.forall_mem_cons.mpr ⟨sd_isub 102 269 (dk_102_4 (269, .isub, 1) (List.mem_of_getElem? (i := 8) rfl)),
  List.forall_mem_cons.mpr ⟨sd_icmp_ne 102 270 7 277 (by decide) (dk_102_4 (270, .if_icmp .ne 7, 3) (List.mem_of_getElem? (i := 9) rfl)),
  List.forall_mem_cons.mpr ⟨sd_iconst 102 273 1 ⟨by decide, by decide⟩ (dk_102_4 (273, .iconst 1, 1) (List.mem_of_getElem? (i := 10) rfl)),
  List.forall_mem_cons.mpr ⟨sd_goto 102 274 4 278 (by decide) (dk_102_4 (274, .goto 4, 3) (List.mem_of_getElem? (i := 11) rfl)),
  List.forall_mem_cons.mpr ⟨sd_iconst 102 277 0 ⟨by decide, by decide⟩ (dk_102_4 (277, .iconst 0, 1) (List.mem_of_getElem? (i := 12) rfl)),
  List.forall_mem_cons.mpr ⟨sd_zret 102 278 rfl (dk_102_4 (278, .ireturn, 1) (List.mem_of_getElem? (i := 13) rfl)),
  List.forall_mem_cons.mpr ⟨sd_oStR 102 279 10 (by decide) (dk_102_4 (279, .astore 10, 2) (List.mem_of_getElem? (i := 14) rfl)),
  List.forall_mem_cons.mpr ⟨sd_oLdI 102 281 6 (dk_102_4 (281, .iload 6, 2) (List.mem_of_getElem? (i := 15) rfl)),
  List.forall_mem_cons.mpr ⟨sd_if_ne 102 283 7 290 (by decide) (dk_102_4 (283, .ifCond .ne 7, 3) (List.mem_of_getElem? (i := 16) rfl)),
  List.forall_mem_cons.mpr ⟨sd_iconst 102 286 1 ⟨by decide, by decide⟩ (dk_102_4 (286, .iconst 1, 1) (List.mem_of_getElem? (i := 17) rfl)),
  List.forall_mem_cons.mpr ⟨sd_goto 102 287 4 291 (by decide) (dk_102_4 (287, .goto 4, 3) (List.mem_of_getElem? (i := 18) rfl)),
  List.forall_mem_cons.mpr ⟨sd_iconst 102 290 0 ⟨by decide, by decide⟩ (dk_102_4 (290, .iconst 0, 1) (List.mem_of_getElem? (i := 19) rfl)),
  List.forall_mem_cons.mpr ⟨sd_zret 102 291 rfl (dk_102_4 (291, .ireturn, 1) (List.mem_of_getElem? (i := 20) rfl)),
  fun _ h => nomatch h⟩⟩⟩⟩⟩⟩⟩⟩⟩⟩⟩⟩⟩⟩⟩⟩⟩⟩⟩
def tb_102 : List (List (Nat × Op1)) := [tb_102_0, tb_102_1, tb_102_2, tb_102_3, tb_102_4]
theorem sm_102 : ∀ t ∈ tb_102, ∀ q ∈ t, SM GwP MdP D A l 102 q.1 q.2 := List.forall_mem_cons.mpr ⟨sm_102_0, List.forall_mem_cons.mpr ⟨sm_102_1, List.forall_mem_cons.mpr ⟨sm_102_2, List.forall_mem_cons.mpr ⟨sm_102_3, List.forall_mem_cons.mpr ⟨sm_102_4, fun _ h => nomatch h⟩⟩⟩⟩⟩
-- 103: MarginaliaLaw$Page.any()I
def dl_103_0 : List (Nat × Instr × Nat) := [(0, .iconst 0, 1), (1, .istore_n 1, 1), (2, .aload_n 0, 1), (3, .getfield 26, 3), (6, .astore_n 2, 1), (7, .aload_n 2, 1), (8, .arraylength, 1), (9, .istore_n 3, 1), (10, .iconst 0, 1), (11, .istore 4, 2), (13, .iload 4, 2), (15, .iload_n 3, 1), (16, .if_icmp .ge 31, 3), (19, .aload_n 2, 1), (20, .iload 4, 2), (22, .aaload, 1), (23, .astore 5, 2), (25, .iload_n 1, 1), (26, .aload 5, 2), (28, .iconst 4, 1), (29, .iaload, 1), (30, .iconst 2, 1), (31, .if_icmp .ge 7, 3), (34, .iconst 1, 1), (35, .goto 4, 3), (38, .iconst 0, 1), (39, .iadd, 1), (40, .istore_n 1, 1), (41, .iinc 4 1, 3), (44, .goto (-31), 3), (47, .iload_n 1, 1), (48, .ifCond .ne 7, 3), (51, .iconst 0, 1), (52, .goto 8, 3), (55, .aload_n 0, 1), (56, .iload_n 1, 1), (57, .invokevirtual 61, 3), (60, .istore_n 2, 1), (61, .iconst 0, 1), (62, .istore_n 3, 1)]
theorem dk_103_0 : ∀ q ∈ dl_103_0, decode (mCod (MdP 103)) q.1 = .ok q.2 := by
  rw [show mCod (MdP 103) = cX6_any from rfl]
  decide +kernel
def dl_103_1 : List (Nat × Instr × Nat) := [(63, .iload_n 3, 1), (64, .aload_n 0, 1), (65, .getfield 26, 3), (68, .arraylength, 1), (69, .if_icmp .ge 30, 3), (72, .aload_n 0, 1), (73, .getfield 26, 3), (76, .iload_n 3, 1), (77, .aaload, 1), (78, .iconst 4, 1), (79, .iaload, 1), (80, .iconst 2, 1), (81, .if_icmp .ge 12, 3), (84, .iload_n 2, 1), (85, .iinc 2 (-1), 3), (88, .ifCond .ne 5, 3), (91, .iload_n 3, 1), (92, .ireturn, 1), (93, .iinc 3 1, 3), (96, .goto (-33), 3), (99, .iconst (-1), 1), (100, .ireturn, 1)]
theorem dk_103_1 : ∀ q ∈ dl_103_1, decode (mCod (MdP 103)) q.1 = .ok q.2 := by
  rw [show mCod (MdP 103) = cX6_any from rfl]
  decide +kernel
def tb_103_0 : List (Nat × Op1) := [(0, oCI 0 1), (1, oStI 1 1), (2, oLdR 0 1), (3, oGetR 7 6), (6, oStR 2 1), (7, oLdR 2 1), (8, oALen 14), (9, oStI 3 1), (10, oCI 0 1), (11, oStI 4 2), (13, oLdI 4 2), (15, oLdI 3 1), (16, oCge 47), (19, oLdR 2 1), (20, oLdI 4 2), (22, oALdR 14), (23, oStR 5 2), (25, oLdI 1 1), (26, oLdR 5 2), (28, oCI 4 1), (29, oALdI 10), (30, oCI 2 1), (31, oCge 38), (34, oCI 1 1), (35, oGoto 39), (38, oCI 0 1), (39, oAdd), (40, oStI 1 1), (41, oInc 4 1), (44, oGoto 13), (47, oLdI 1 1), (48, oZne 55), (51, oCI 0 1), (52, oGoto 60), (55, oLdR 0 1), (56, oLdI 1 1), (57, oCallV 90 1 3 7 []), (60, oStI 2 1), (61, oCI 0 1), (62, oStI 3 1), (63, oLdI 3 1)]
theorem sm_103_0 : ∀ q ∈ tb_103_0, SM GwP MdP D A l 103 q.1 q.2 :=
  List.forall_mem_cons.mpr ⟨sd_iconst 103 0 0 ⟨by decide, by decide⟩ (dk_103_0 (0, .iconst 0, 1) (List.mem_of_getElem? (i := 0) rfl)),
  List.forall_mem_cons.mpr ⟨sd_oStI_n 103 1 1 1 rfl (by decide) (dk_103_0 (1, .istore_n 1, 1) (List.mem_of_getElem? (i := 1) rfl)),
  List.forall_mem_cons.mpr ⟨sd_oLdR_n 103 2 0 0 rfl (dk_103_0 (2, .aload_n 0, 1) (List.mem_of_getElem? (i := 2) rfl)),
  List.forall_mem_cons.mpr ⟨sd_oGetR 103 3 7 6 26 RX6 TX6 8 rfl ⟨by decide, by decide⟩ rfl (by decide) rfl (fun w h => iw_103 w (uz_6 w h)) rfl (iw_103 _ zw343) (dk_103_0 (3, .getfield 26, 3) (List.mem_of_getElem? (i := 3) rfl)),
  List.forall_mem_cons.mpr ⟨sd_oStR_n 103 6 2 2 rfl (by decide) (dk_103_0 (6, .astore_n 2, 1) (List.mem_of_getElem? (i := 4) rfl)),
  List.forall_mem_cons.mpr ⟨sd_oLdR_n 103 7 2 2 rfl (dk_103_0 (7, .aload_n 2, 1) (List.mem_of_getElem? (i := 5) rfl)),
  List.forall_mem_cons.mpr ⟨sd_alen 103 8 14 ⟨by decide, by decide⟩ (dk_103_0 (8, .arraylength, 1) (List.mem_of_getElem? (i := 6) rfl)),
  List.forall_mem_cons.mpr ⟨sd_oStI_n 103 9 3 3 rfl (by decide) (dk_103_0 (9, .istore_n 3, 1) (List.mem_of_getElem? (i := 7) rfl)),
  List.forall_mem_cons.mpr ⟨sd_iconst 103 10 0 ⟨by decide, by decide⟩ (dk_103_0 (10, .iconst 0, 1) (List.mem_of_getElem? (i := 8) rfl)),
  List.forall_mem_cons.mpr ⟨sd_oStI 103 11 4 (by decide) (dk_103_0 (11, .istore 4, 2) (List.mem_of_getElem? (i := 9) rfl)),
  List.forall_mem_cons.mpr ⟨sd_oLdI 103 13 4 (dk_103_0 (13, .iload 4, 2) (List.mem_of_getElem? (i := 10) rfl)),
  List.forall_mem_cons.mpr ⟨sd_oLdI_n 103 15 3 3 rfl (dk_103_0 (15, .iload_n 3, 1) (List.mem_of_getElem? (i := 11) rfl)),
  List.forall_mem_cons.mpr ⟨sd_icmp_ge 103 16 31 47 (by decide) (dk_103_0 (16, .if_icmp .ge 31, 3) (List.mem_of_getElem? (i := 12) rfl)),
  List.forall_mem_cons.mpr ⟨sd_oLdR_n 103 19 2 2 rfl (dk_103_0 (19, .aload_n 2, 1) (List.mem_of_getElem? (i := 13) rfl)),
  List.forall_mem_cons.mpr ⟨sd_oLdI 103 20 4 (dk_103_0 (20, .iload 4, 2) (List.mem_of_getElem? (i := 14) rfl)),
  List.forall_mem_cons.mpr ⟨sd_aaldA 103 22 (dk_103_0 (22, .aaload, 1) (List.mem_of_getElem? (i := 15) rfl)),
  List.forall_mem_cons.mpr ⟨sd_oStR 103 23 5 (by decide) (dk_103_0 (23, .astore 5, 2) (List.mem_of_getElem? (i := 16) rfl)),
  List.forall_mem_cons.mpr ⟨sd_oLdI_n 103 25 1 1 rfl (dk_103_0 (25, .iload_n 1, 1) (List.mem_of_getElem? (i := 17) rfl)),
  List.forall_mem_cons.mpr ⟨sd_oLdR 103 26 5 (dk_103_0 (26, .aload 5, 2) (List.mem_of_getElem? (i := 18) rfl)),
  List.forall_mem_cons.mpr ⟨sd_iconst 103 28 4 ⟨by decide, by decide⟩ (dk_103_0 (28, .iconst 4, 1) (List.mem_of_getElem? (i := 19) rfl)),
  List.forall_mem_cons.mpr ⟨sd_iald 103 29 (dk_103_0 (29, .iaload, 1) (List.mem_of_getElem? (i := 20) rfl)),
  List.forall_mem_cons.mpr ⟨sd_iconst 103 30 2 ⟨by decide, by decide⟩ (dk_103_0 (30, .iconst 2, 1) (List.mem_of_getElem? (i := 21) rfl)),
  List.forall_mem_cons.mpr ⟨sd_icmp_ge 103 31 7 38 (by decide) (dk_103_0 (31, .if_icmp .ge 7, 3) (List.mem_of_getElem? (i := 22) rfl)),
  List.forall_mem_cons.mpr ⟨sd_iconst 103 34 1 ⟨by decide, by decide⟩ (dk_103_0 (34, .iconst 1, 1) (List.mem_of_getElem? (i := 23) rfl)),
  List.forall_mem_cons.mpr ⟨sd_goto 103 35 4 39 (by decide) (dk_103_0 (35, .goto 4, 3) (List.mem_of_getElem? (i := 24) rfl)),
  List.forall_mem_cons.mpr ⟨sd_iconst 103 38 0 ⟨by decide, by decide⟩ (dk_103_0 (38, .iconst 0, 1) (List.mem_of_getElem? (i := 25) rfl)),
  List.forall_mem_cons.mpr ⟨sd_iadd 103 39 (dk_103_0 (39, .iadd, 1) (List.mem_of_getElem? (i := 26) rfl)),
  List.forall_mem_cons.mpr ⟨sd_oStI_n 103 40 1 1 rfl (by decide) (dk_103_0 (40, .istore_n 1, 1) (List.mem_of_getElem? (i := 27) rfl)),
  List.forall_mem_cons.mpr ⟨sd_iinc 103 41 4 1 (by decide) (dk_103_0 (41, .iinc 4 1, 3) (List.mem_of_getElem? (i := 28) rfl)),
  List.forall_mem_cons.mpr ⟨sd_goto 103 44 (-31) 13 (by decide) (dk_103_0 (44, .goto (-31), 3) (List.mem_of_getElem? (i := 29) rfl)),
  List.forall_mem_cons.mpr ⟨sd_oLdI_n 103 47 1 1 rfl (dk_103_0 (47, .iload_n 1, 1) (List.mem_of_getElem? (i := 30) rfl)),
  List.forall_mem_cons.mpr ⟨sd_if_ne 103 48 7 55 (by decide) (dk_103_0 (48, .ifCond .ne 7, 3) (List.mem_of_getElem? (i := 31) rfl)),
  List.forall_mem_cons.mpr ⟨sd_iconst 103 51 0 ⟨by decide, by decide⟩ (dk_103_0 (51, .iconst 0, 1) (List.mem_of_getElem? (i := 32) rfl)),
  List.forall_mem_cons.mpr ⟨sd_goto 103 52 8 60 (by decide) (dk_103_0 (52, .goto 8, 3) (List.mem_of_getElem? (i := 33) rfl)),
  List.forall_mem_cons.mpr ⟨sd_oLdR_n 103 55 0 0 rfl (dk_103_0 (55, .aload_n 0, 1) (List.mem_of_getElem? (i := 34) rfl)),
  List.forall_mem_cons.mpr ⟨sd_oLdI_n 103 56 1 1 rfl (dk_103_0 (56, .iload_n 1, 1) (List.mem_of_getElem? (i := 35) rfl)),
  List.forall_mem_cons.mpr ⟨sd_callV 103 57 90 1 3 61 7 [] (gdV hws_103 hws_90 zw359 zw360 zw361 zw362 zw358) hws_90 rfl (by decide +kernel) rfl rfl ⟨by decide +kernel, by decide +kernel, by decide +kernel⟩ ⟨by decide, by decide⟩ (catch_nil rfl) RX6 rfl TX6 8 rfl ⟨by decide, by decide⟩ (dk_103_0 (57, .invokevirtual 61, 3) (List.mem_of_getElem? (i := 36) rfl)),
  List.forall_mem_cons.mpr ⟨sd_oStI_n 103 60 2 2 rfl (by decide) (dk_103_0 (60, .istore_n 2, 1) (List.mem_of_getElem? (i := 37) rfl)),
  List.forall_mem_cons.mpr ⟨sd_iconst 103 61 0 ⟨by decide, by decide⟩ (dk_103_0 (61, .iconst 0, 1) (List.mem_of_getElem? (i := 38) rfl)),
  List.forall_mem_cons.mpr ⟨sd_oStI_n 103 62 3 3 rfl (by decide) (dk_103_0 (62, .istore_n 3, 1) (List.mem_of_getElem? (i := 39) rfl)),
  List.forall_mem_cons.mpr ⟨sd_oLdI_n 103 63 3 3 rfl (dk_103_1 (63, .iload_n 3, 1) (List.mem_of_getElem? (i := 0) rfl)),
  fun _ h => nomatch h⟩⟩⟩⟩⟩⟩⟩⟩⟩⟩⟩⟩⟩⟩⟩⟩⟩⟩⟩⟩⟩⟩⟩⟩⟩⟩⟩⟩⟩⟩⟩⟩⟩⟩⟩⟩⟩⟩⟩⟩⟩
def tb_103_1 : List (Nat × Op1) := [(64, oLdR 0 1), (65, oGetR 7 6), (68, oALen 14), (69, oCge 99), (72, oLdR 0 1), (73, oGetR 7 6), (76, oLdI 3 1), (77, oALdR 14), (78, oCI 4 1), (79, oALdI 10), (80, oCI 2 1), (81, oCge 93), (84, oLdI 2 1), (85, oInc 2 (-1)), (88, oZne 93), (91, oLdI 3 1), (92, oRetI), (93, oInc 3 1), (96, oGoto 63), (99, oCI (-1) 1), (100, oRetI)]
theorem sm_103_1 : ∀ q ∈ tb_103_1, SM GwP MdP D A l 103 q.1 q.2 :=
  List.forall_mem_cons.mpr ⟨sd_oLdR_n 103 64 0 0 rfl (dk_103_1 (64, .aload_n 0, 1) (List.mem_of_getElem? (i := 1) rfl)),
  List.forall_mem_cons.mpr ⟨sd_oGetR 103 65 7 6 26 RX6 TX6 8 rfl ⟨by decide, by decide⟩ rfl (by decide) rfl (fun w h => iw_103 w (uz_6 w h)) rfl (iw_103 _ zw343) (dk_103_1 (65, .getfield 26, 3) (List.mem_of_getElem? (i := 2) rfl)),
  List.forall_mem_cons.mpr ⟨sd_alen 103 68 14 ⟨by decide, by decide⟩ (dk_103_1 (68, .arraylength, 1) (List.mem_of_getElem? (i := 3) rfl)),
  List.forall_mem_cons.mpr ⟨sd_icmp_ge 103 69 30 99 (by decide) (dk_103_1 (69, .if_icmp .ge 30, 3) (List.mem_of_getElem? (i := 4) rfl)),
  List.forall_mem_cons.mpr ⟨sd_oLdR_n 103 72 0 0 rfl (dk_103_1 (72, .aload_n 0, 1) (List.mem_of_getElem? (i := 5) rfl)),
  List.forall_mem_cons.mpr ⟨sd_oGetR 103 73 7 6 26 RX6 TX6 8 rfl ⟨by decide, by decide⟩ rfl (by decide) rfl (fun w h => iw_103 w (uz_6 w h)) rfl (iw_103 _ zw343) (dk_103_1 (73, .getfield 26, 3) (List.mem_of_getElem? (i := 6) rfl)),
  List.forall_mem_cons.mpr ⟨sd_oLdI_n 103 76 3 3 rfl (dk_103_1 (76, .iload_n 3, 1) (List.mem_of_getElem? (i := 7) rfl)),
  List.forall_mem_cons.mpr ⟨sd_aaldA 103 77 (dk_103_1 (77, .aaload, 1) (List.mem_of_getElem? (i := 8) rfl)),
  List.forall_mem_cons.mpr ⟨sd_iconst 103 78 4 ⟨by decide, by decide⟩ (dk_103_1 (78, .iconst 4, 1) (List.mem_of_getElem? (i := 9) rfl)),
  List.forall_mem_cons.mpr ⟨sd_iald 103 79 (dk_103_1 (79, .iaload, 1) (List.mem_of_getElem? (i := 10) rfl)),
  List.forall_mem_cons.mpr ⟨sd_iconst 103 80 2 ⟨by decide, by decide⟩ (dk_103_1 (80, .iconst 2, 1) (List.mem_of_getElem? (i := 11) rfl)),
  List.forall_mem_cons.mpr ⟨sd_icmp_ge 103 81 12 93 (by decide) (dk_103_1 (81, .if_icmp .ge 12, 3) (List.mem_of_getElem? (i := 12) rfl)),
  List.forall_mem_cons.mpr ⟨sd_oLdI_n 103 84 2 2 rfl (dk_103_1 (84, .iload_n 2, 1) (List.mem_of_getElem? (i := 13) rfl)),
  List.forall_mem_cons.mpr ⟨sd_iinc 103 85 2 (-1) (by decide) (dk_103_1 (85, .iinc 2 (-1), 3) (List.mem_of_getElem? (i := 14) rfl)),
  List.forall_mem_cons.mpr ⟨sd_if_ne 103 88 5 93 (by decide) (dk_103_1 (88, .ifCond .ne 5, 3) (List.mem_of_getElem? (i := 15) rfl)),
  List.forall_mem_cons.mpr ⟨sd_oLdI_n 103 91 3 3 rfl (dk_103_1 (91, .iload_n 3, 1) (List.mem_of_getElem? (i := 16) rfl)),
  List.forall_mem_cons.mpr ⟨sd_iret 103 92 rfl (dk_103_1 (92, .ireturn, 1) (List.mem_of_getElem? (i := 17) rfl)),
  List.forall_mem_cons.mpr ⟨sd_iinc 103 93 3 1 (by decide) (dk_103_1 (93, .iinc 3 1, 3) (List.mem_of_getElem? (i := 18) rfl)),
  List.forall_mem_cons.mpr ⟨sd_goto 103 96 (-33) 63 (by decide) (dk_103_1 (96, .goto (-33), 3) (List.mem_of_getElem? (i := 19) rfl)),
  List.forall_mem_cons.mpr ⟨sd_iconst 103 99 (-1) ⟨by decide, by decide⟩ (dk_103_1 (99, .iconst (-1), 1) (List.mem_of_getElem? (i := 20) rfl)),
  List.forall_mem_cons.mpr ⟨sd_iret 103 100 rfl (dk_103_1 (100, .ireturn, 1) (List.mem_of_getElem? (i := 21) rfl)),
  fun _ h => nomatch h⟩⟩⟩⟩⟩⟩⟩⟩⟩⟩⟩⟩⟩⟩⟩⟩⟩⟩⟩⟩⟩
def tb_103 : List (List (Nat × Op1)) := [tb_103_0, tb_103_1]
theorem sm_103 : ∀ t ∈ tb_103, ∀ q ∈ t, SM GwP MdP D A l 103 q.1 q.2 := List.forall_mem_cons.mpr ⟨sm_103_0, List.forall_mem_cons.mpr ⟨sm_103_1, fun _ h => nomatch h⟩⟩
-- 104: MarginaliaLaw$Page.reply()Z
def dl_104_0 : List (Nat × Instr × Nat) := [(0, .aload_n 0, 1), (1, .invokevirtual 113, 3), (4, .istore_n 1, 1), (5, .iload_n 1, 1), (6, .ifCond .ge 5, 3), (9, .iconst 1, 1), (10, .ireturn, 1), (11, .aload_n 0, 1), (12, .aload_n 0, 1), (13, .getfield 16, 3), (16, .arraylength, 1), (17, .invokevirtual 61, 3), (20, .istore_n 2, 1), (21, .aload_n 0, 1), (22, .sipush 1000, 3), (25, .invokevirtual 61, 3), (28, .istore_n 3, 1), (29, .aload_n 0, 1), (30, .getfield 16, 3), (33, .iload_n 2, 1), (34, .iaload, 1), (35, .iconst 2, 1), (36, .if_icmp .lt 37, 3), (39, .aload_n 0, 1), (40, .iload_n 2, 1), (41, .iload_n 1, 1), (42, .invokevirtual 117, 3), (45, .ifCond .eq 28, 3), (48, .aload_n 0, 1), (49, .getfield 26, 3), (52, .iload_n 1, 1), (53, .aaload, 1), (54, .iconst 4, 1), (55, .iaload, 1), (56, .ifCond .ne 17, 3), (59, .aload_n 0, 1), (60, .getfield 26, 3), (63, .arraylength, 1), (64, .bipush 60, 2), (66, .if_icmp .ge 7, 3)]
theorem dk_104_0 : ∀ q ∈ dl_104_0, decode (mCod (MdP 104)) q.1 = .ok q.2 := by
  rw [show mCod (MdP 104) = cX6_reply from rfl]
  decide +kernel
def dl_104_1 : List (Nat × Instr × Nat) := [(69, .iconst 1, 1), (70, .goto 4, 3), (73, .iconst 0, 1), (74, .istore 4, 2), (76, .aload_n 0, 1), (77, .getfield 10, 3), (80, .iload_n 2, 1), (81, .iload_n 1, 1), (82, .iload_n 3, 1), (83, .invokevirtual 120, 3), (86, .istore 5, 2), (88, .iload 4, 2), (90, .ifCond .ne 5, 3), (93, .iconst 0, 1), (94, .ireturn, 1), (95, .aload_n 0, 1), (96, .getfield 26, 3), (99, .aload_n 0, 1), (100, .getfield 26, 3), (103, .iload_n 1, 1), (104, .aaload, 1), (105, .iconst 3, 1), (106, .iaload, 1), (107, .aaload, 1), (108, .bipush 8, 2), (110, .iconst 0, 1), (111, .iastore, 1), (112, .iconst 5, 1), (113, .newarray .int, 2), (115, .dup, 1), (116, .iconst 0, 1), (117, .iload_n 2, 1), (118, .iastore, 1), (119, .dup, 1), (120, .iconst 1, 1), (121, .iload_n 3, 1), (122, .iastore, 1), (123, .dup, 1), (124, .iconst 2, 1), (125, .iload_n 1, 1)]
theorem dk_104_1 : ∀ q ∈ dl_104_1, decode (mCod (MdP 104)) q.1 = .ok q.2 := by
  rw [show mCod (MdP 104) = cX6_reply from rfl]
  decide +kernel
def dl_104_2 : List (Nat × Instr × Nat) := [(126, .iastore, 1), (127, .dup, 1), (128, .iconst 3, 1), (129, .aload_n 0, 1), (130, .getfield 26, 3), (133, .iload_n 1, 1), (134, .aaload, 1), (135, .iconst 3, 1), (136, .iaload, 1), (137, .iastore, 1), (138, .dup, 1), (139, .iconst 4, 1), (140, .iconst 0, 1), (141, .iastore, 1), (142, .astore 6, 2), (144, .aload_n 0, 1), (145, .aload_n 0, 1), (146, .getfield 26, 3), (149, .aload_n 0, 1), (150, .getfield 26, 3), (153, .arraylength, 1), (154, .aload 6, 2), (156, .invokestatic 75, 3), (159, .putfield 26, 3), (162, .iload 5, 2), (164, .aload_n 0, 1), (165, .getfield 26, 3), (168, .arraylength, 1), (169, .iconst 1, 1), (170, .isub, 1), (171, .if_icmp .ne 7, 3), (174, .iconst 1, 1), (175, .goto 4, 3), (178, .iconst 0, 1), (179, .ireturn, 1), (180, .astore 5, 2), (182, .iload 4, 2), (184, .ifCond .ne 7, 3), (187, .iconst 1, 1), (188, .goto 4, 3)]
theorem dk_104_2 : ∀ q ∈ dl_104_2, decode (mCod (MdP 104)) q.1 = .ok q.2 := by
  rw [show mCod (MdP 104) = cX6_reply from rfl]
  decide +kernel
def dl_104_3 : List (Nat × Instr × Nat) := [(191, .iconst 0, 1), (192, .ireturn, 1)]
theorem dk_104_3 : ∀ q ∈ dl_104_3, decode (mCod (MdP 104)) q.1 = .ok q.2 := by
  rw [show mCod (MdP 104) = cX6_reply from rfl]
  decide +kernel
def tb_104_0 : List (Nat × Op1) := [(0, oLdR 0 1), (1, oCallV 103 0 6 7 []), (4, oStI 1 1), (5, oLdI 1 1), (6, oZge 11), (9, oCI 1 1), (10, oRetZ), (11, oLdR 0 1), (12, oLdR 0 1), (13, oGetR 7 3), (16, oALen 10), (17, oCallV 90 1 3 7 []), (20, oStI 2 1), (21, oLdR 0 1), (22, oCI 1000 3), (25, oCallV 90 1 3 7 []), (28, oStI 3 1), (29, oLdR 0 1), (30, oGetR 7 3), (33, oLdI 2 1), (34, oALdI 10), (35, oCI 2 1), (36, oClt 73), (39, oLdR 0 1), (40, oLdI 2 1), (41, oLdI 1 1), (42, oCallV 101 2 3 7 []), (45, oZeq 73), (48, oLdR 0 1), (49, oGetR 7 6), (52, oLdI 1 1), (53, oALdR 14), (54, oCI 4 1), (55, oALdI 10), (56, oZne 73), (59, oLdR 0 1), (60, oGetR 7 6), (63, oALen 14)]
theorem sm_104_0 : ∀ q ∈ tb_104_0, SM GwP MdP D A l 104 q.1 q.2 :=
  List.forall_mem_cons.mpr ⟨sd_oLdR_n 104 0 0 0 rfl (dk_104_0 (0, .aload_n 0, 1) (List.mem_of_getElem? (i := 0) rfl)),
  List.forall_mem_cons.mpr ⟨sd_callV 104 1 103 0 6 113 7 [] (gdV hws_104 hws_103 zw406 zw407 zw408 zw362 zw405) hws_103 rfl (by decide +kernel) rfl rfl ⟨by decide +kernel, by decide +kernel, by decide +kernel⟩ ⟨by decide, by decide⟩ (catch_of (fun _ => by decide +kernel) (fun _ h => nomatch h)) RX6 rfl TX6 8 rfl ⟨by decide, by decide⟩ (dk_104_0 (1, .invokevirtual 113, 3) (List.mem_of_getElem? (i := 1) rfl)),
  List.forall_mem_cons.mpr ⟨sd_oStI_n 104 4 1 1 rfl (by decide) (dk_104_0 (4, .istore_n 1, 1) (List.mem_of_getElem? (i := 2) rfl)),
  List.forall_mem_cons.mpr ⟨sd_oLdI_n 104 5 1 1 rfl (dk_104_0 (5, .iload_n 1, 1) (List.mem_of_getElem? (i := 3) rfl)),
  List.forall_mem_cons.mpr ⟨sd_if_ge 104 6 5 11 (by decide) (dk_104_0 (6, .ifCond .ge 5, 3) (List.mem_of_getElem? (i := 4) rfl)),
  List.forall_mem_cons.mpr ⟨sd_iconst 104 9 1 ⟨by decide, by decide⟩ (dk_104_0 (9, .iconst 1, 1) (List.mem_of_getElem? (i := 5) rfl)),
  List.forall_mem_cons.mpr ⟨sd_zret 104 10 rfl (dk_104_0 (10, .ireturn, 1) (List.mem_of_getElem? (i := 6) rfl)),
  List.forall_mem_cons.mpr ⟨sd_oLdR_n 104 11 0 0 rfl (dk_104_0 (11, .aload_n 0, 1) (List.mem_of_getElem? (i := 7) rfl)),
  List.forall_mem_cons.mpr ⟨sd_oLdR_n 104 12 0 0 rfl (dk_104_0 (12, .aload_n 0, 1) (List.mem_of_getElem? (i := 8) rfl)),
  List.forall_mem_cons.mpr ⟨sd_oGetR 104 13 7 3 16 RX6 TX6 8 rfl ⟨by decide, by decide⟩ rfl (by decide) rfl (fun w h => iw_104 w (uz_6 w h)) rfl (iw_104 _ zw339) (dk_104_0 (13, .getfield 16, 3) (List.mem_of_getElem? (i := 9) rfl)),
  List.forall_mem_cons.mpr ⟨sd_alen 104 16 10 ⟨by decide, by decide⟩ (dk_104_0 (16, .arraylength, 1) (List.mem_of_getElem? (i := 10) rfl)),
  List.forall_mem_cons.mpr ⟨sd_callV 104 17 90 1 3 61 7 [] (gdV hws_104 hws_90 zw359 zw360 zw361 zw362 zw358) hws_90 rfl (by decide +kernel) rfl rfl ⟨by decide +kernel, by decide +kernel, by decide +kernel⟩ ⟨by decide, by decide⟩ (catch_of (fun _ => by decide +kernel) (fun _ h => nomatch h)) RX6 rfl TX6 8 rfl ⟨by decide, by decide⟩ (dk_104_0 (17, .invokevirtual 61, 3) (List.mem_of_getElem? (i := 11) rfl)),
  List.forall_mem_cons.mpr ⟨sd_oStI_n 104 20 2 2 rfl (by decide) (dk_104_0 (20, .istore_n 2, 1) (List.mem_of_getElem? (i := 12) rfl)),
  List.forall_mem_cons.mpr ⟨sd_oLdR_n 104 21 0 0 rfl (dk_104_0 (21, .aload_n 0, 1) (List.mem_of_getElem? (i := 13) rfl)),
  List.forall_mem_cons.mpr ⟨sd_sipush 104 22 1000 ⟨by decide, by decide⟩ (by decide) (dk_104_0 (22, .sipush 1000, 3) (List.mem_of_getElem? (i := 14) rfl)),
  List.forall_mem_cons.mpr ⟨sd_callV 104 25 90 1 3 61 7 [] (gdV hws_104 hws_90 zw359 zw360 zw361 zw362 zw358) hws_90 rfl (by decide +kernel) rfl rfl ⟨by decide +kernel, by decide +kernel, by decide +kernel⟩ ⟨by decide, by decide⟩ (catch_of (fun _ => by decide +kernel) (fun _ h => nomatch h)) RX6 rfl TX6 8 rfl ⟨by decide, by decide⟩ (dk_104_0 (25, .invokevirtual 61, 3) (List.mem_of_getElem? (i := 15) rfl)),
  List.forall_mem_cons.mpr ⟨sd_oStI_n 104 28 3 3 rfl (by decide) (dk_104_0 (28, .istore_n 3, 1) (List.mem_of_getElem? (i := 16) rfl)),
  List.forall_mem_cons.mpr ⟨sd_oLdR_n 104 29 0 0 rfl (dk_104_0 (29, .aload_n 0, 1) (List.mem_of_getElem? (i := 17) rfl)),
  List.forall_mem_cons.mpr ⟨sd_oGetR 104 30 7 3 16 RX6 TX6 8 rfl ⟨by decide, by decide⟩ rfl (by decide) rfl (fun w h => iw_104 w (uz_6 w h)) rfl (iw_104 _ zw339) (dk_104_0 (30, .getfield 16, 3) (List.mem_of_getElem? (i := 18) rfl)),
  List.forall_mem_cons.mpr ⟨sd_oLdI_n 104 33 2 2 rfl (dk_104_0 (33, .iload_n 2, 1) (List.mem_of_getElem? (i := 19) rfl)),
  List.forall_mem_cons.mpr ⟨sd_iald 104 34 (dk_104_0 (34, .iaload, 1) (List.mem_of_getElem? (i := 20) rfl)),
  List.forall_mem_cons.mpr ⟨sd_iconst 104 35 2 ⟨by decide, by decide⟩ (dk_104_0 (35, .iconst 2, 1) (List.mem_of_getElem? (i := 21) rfl)),
  List.forall_mem_cons.mpr ⟨sd_icmp_lt 104 36 37 73 (by decide) (dk_104_0 (36, .if_icmp .lt 37, 3) (List.mem_of_getElem? (i := 22) rfl)),
  List.forall_mem_cons.mpr ⟨sd_oLdR_n 104 39 0 0 rfl (dk_104_0 (39, .aload_n 0, 1) (List.mem_of_getElem? (i := 23) rfl)),
  List.forall_mem_cons.mpr ⟨sd_oLdI_n 104 40 2 2 rfl (dk_104_0 (40, .iload_n 2, 1) (List.mem_of_getElem? (i := 24) rfl)),
  List.forall_mem_cons.mpr ⟨sd_oLdI_n 104 41 1 1 rfl (dk_104_0 (41, .iload_n 1, 1) (List.mem_of_getElem? (i := 25) rfl)),
  List.forall_mem_cons.mpr ⟨sd_callV 104 42 101 2 3 117 7 [] (gdV hws_104 hws_101 zw410 zw411 zw412 zw362 zw409) hws_101 rfl (by decide +kernel) rfl rfl ⟨by decide +kernel, by decide +kernel, by decide +kernel⟩ ⟨by decide, by decide⟩ (catch_of (fun _ => by decide +kernel) (fun _ h => nomatch h)) RX6 rfl TX6 8 rfl ⟨by decide, by decide⟩ (dk_104_0 (42, .invokevirtual 117, 3) (List.mem_of_getElem? (i := 26) rfl)),
  List.forall_mem_cons.mpr ⟨sd_if_eq 104 45 28 73 (by decide) (dk_104_0 (45, .ifCond .eq 28, 3) (List.mem_of_getElem? (i := 27) rfl)),
  List.forall_mem_cons.mpr ⟨sd_oLdR_n 104 48 0 0 rfl (dk_104_0 (48, .aload_n 0, 1) (List.mem_of_getElem? (i := 28) rfl)),
  List.forall_mem_cons.mpr ⟨sd_oGetR 104 49 7 6 26 RX6 TX6 8 rfl ⟨by decide, by decide⟩ rfl (by decide) rfl (fun w h => iw_104 w (uz_6 w h)) rfl (iw_104 _ zw343) (dk_104_0 (49, .getfield 26, 3) (List.mem_of_getElem? (i := 29) rfl)),
  List.forall_mem_cons.mpr ⟨sd_oLdI_n 104 52 1 1 rfl (dk_104_0 (52, .iload_n 1, 1) (List.mem_of_getElem? (i := 30) rfl)),
  List.forall_mem_cons.mpr ⟨sd_aaldA 104 53 (dk_104_0 (53, .aaload, 1) (List.mem_of_getElem? (i := 31) rfl)),
  List.forall_mem_cons.mpr ⟨sd_iconst 104 54 4 ⟨by decide, by decide⟩ (dk_104_0 (54, .iconst 4, 1) (List.mem_of_getElem? (i := 32) rfl)),
  List.forall_mem_cons.mpr ⟨sd_iald 104 55 (dk_104_0 (55, .iaload, 1) (List.mem_of_getElem? (i := 33) rfl)),
  List.forall_mem_cons.mpr ⟨sd_if_ne 104 56 17 73 (by decide) (dk_104_0 (56, .ifCond .ne 17, 3) (List.mem_of_getElem? (i := 34) rfl)),
  List.forall_mem_cons.mpr ⟨sd_oLdR_n 104 59 0 0 rfl (dk_104_0 (59, .aload_n 0, 1) (List.mem_of_getElem? (i := 35) rfl)),
  List.forall_mem_cons.mpr ⟨sd_oGetR 104 60 7 6 26 RX6 TX6 8 rfl ⟨by decide, by decide⟩ rfl (by decide) rfl (fun w h => iw_104 w (uz_6 w h)) rfl (iw_104 _ zw343) (dk_104_0 (60, .getfield 26, 3) (List.mem_of_getElem? (i := 36) rfl)),
  List.forall_mem_cons.mpr ⟨sd_alen 104 63 14 ⟨by decide, by decide⟩ (dk_104_0 (63, .arraylength, 1) (List.mem_of_getElem? (i := 37) rfl)),
  fun _ h => nomatch h⟩⟩⟩⟩⟩⟩⟩⟩⟩⟩⟩⟩⟩⟩⟩⟩⟩⟩⟩⟩⟩⟩⟩⟩⟩⟩⟩⟩⟩⟩⟩⟩⟩⟩⟩⟩⟩⟩
def tb_104_1 : List (Nat × Op1) := [(64, oCI 60 2), (66, oCge 73), (69, oCI 1 1), (70, oGoto 74), (73, oCI 0 1), (74, oStI 4 2), (76, oLdR 0 1), (77, oGetR 7 0), (80, oLdI 2 1), (81, oLdI 1 1), (82, oLdI 3 1), (83, oCallV 41 3 6 6 [(2, 180)]), (86, oStI 5 2), (88, oLdI 4 2), (90, oZne 95), (93, oCI 0 1), (94, oRetZ), (95, oLdR 0 1), (96, oGetR 7 6), (99, oLdR 0 1), (100, oGetR 7 6), (103, oLdI 1 1), (104, oALdR 14), (105, oCI 3 1), (106, oALdI 10), (107, oALdR 14), (108, oCI 8 2), (110, oCI 0 1), (111, oAStI), (112, oCI 5 1), (113, oNewA 10 2), (115, oDup), (116, oCI 0 1), (117, oLdI 2 1), (118, oAStI), (119, oDup), (120, oCI 1 1), (121, oLdI 3 1), (122, oAStI), (123, oDup), (124, oCI 2 1), (125, oLdI 1 1), (126, oAStI), (127, oDup)]
theorem sm_104_1 : ∀ q ∈ tb_104_1, SM GwP MdP D A l 104 q.1 q.2 :=
  List.forall_mem_cons.mpr ⟨sd_bipush 104 64 60 ⟨by decide, by decide⟩ (by decide) (dk_104_0 (64, .bipush 60, 2) (List.mem_of_getElem? (i := 38) rfl)),
  List.forall_mem_cons.mpr ⟨sd_icmp_ge 104 66 7 73 (by decide) (dk_104_0 (66, .if_icmp .ge 7, 3) (List.mem_of_getElem? (i := 39) rfl)),
  List.forall_mem_cons.mpr ⟨sd_iconst 104 69 1 ⟨by decide, by decide⟩ (dk_104_1 (69, .iconst 1, 1) (List.mem_of_getElem? (i := 0) rfl)),
  List.forall_mem_cons.mpr ⟨sd_goto 104 70 4 74 (by decide) (dk_104_1 (70, .goto 4, 3) (List.mem_of_getElem? (i := 1) rfl)),
  List.forall_mem_cons.mpr ⟨sd_iconst 104 73 0 ⟨by decide, by decide⟩ (dk_104_1 (73, .iconst 0, 1) (List.mem_of_getElem? (i := 2) rfl)),
  List.forall_mem_cons.mpr ⟨sd_oStI 104 74 4 (by decide) (dk_104_1 (74, .istore 4, 2) (List.mem_of_getElem? (i := 3) rfl)),
  List.forall_mem_cons.mpr ⟨sd_oLdR_n 104 76 0 0 rfl (dk_104_1 (76, .aload_n 0, 1) (List.mem_of_getElem? (i := 4) rfl)),
  List.forall_mem_cons.mpr ⟨sd_oGetR 104 77 7 0 10 RX6 TX6 8 rfl ⟨by decide, by decide⟩ rfl (by decide) rfl (fun w h => iw_104 w (uz_6 w h)) rfl (iw_104 _ zw338) (dk_104_1 (77, .getfield 10, 3) (List.mem_of_getElem? (i := 5) rfl)),
  List.forall_mem_cons.mpr ⟨sd_oLdI_n 104 80 2 2 rfl (dk_104_1 (80, .iload_n 2, 1) (List.mem_of_getElem? (i := 6) rfl)),
  List.forall_mem_cons.mpr ⟨sd_oLdI_n 104 81 1 1 rfl (dk_104_1 (81, .iload_n 1, 1) (List.mem_of_getElem? (i := 7) rfl)),
  List.forall_mem_cons.mpr ⟨sd_oLdI_n 104 82 3 3 rfl (dk_104_1 (82, .iload_n 3, 1) (List.mem_of_getElem? (i := 8) rfl)),
  List.forall_mem_cons.mpr ⟨sd_callV 104 83 41 3 6 120 6 [(2, 180)] (gdV hws_104 hws_41 zw414 zw415 zw416 zw63 zw413) hws_41 rfl (by decide +kernel) rfl rfl ⟨by decide +kernel, by decide +kernel, by decide +kernel⟩ ⟨by decide, by decide⟩ (catch_of (fun h => nomatch h) (List.forall_mem_cons.mpr ⟨⟨[], ⟨76, 94, 180, 91⟩, [⟨95, 179, 180, 91⟩], "java/lang/IllegalStateException", rfl, (fun _ h => nomatch h), by decide, by decide, (iw_104 _ zw379), List.mem_of_getElem? (i := 1) rfl, rfl⟩, (fun _ h => nomatch h)⟩)) RX5 rfl TX5 7 rfl ⟨by decide, by decide⟩ (dk_104_1 (83, .invokevirtual 120, 3) (List.mem_of_getElem? (i := 9) rfl)),
  List.forall_mem_cons.mpr ⟨sd_oStI 104 86 5 (by decide) (dk_104_1 (86, .istore 5, 2) (List.mem_of_getElem? (i := 10) rfl)),
  List.forall_mem_cons.mpr ⟨sd_oLdI 104 88 4 (dk_104_1 (88, .iload 4, 2) (List.mem_of_getElem? (i := 11) rfl)),
  List.forall_mem_cons.mpr ⟨sd_if_ne 104 90 5 95 (by decide) (dk_104_1 (90, .ifCond .ne 5, 3) (List.mem_of_getElem? (i := 12) rfl)),
  List.forall_mem_cons.mpr ⟨sd_iconst 104 93 0 ⟨by decide, by decide⟩ (dk_104_1 (93, .iconst 0, 1) (List.mem_of_getElem? (i := 13) rfl)),
  List.forall_mem_cons.mpr ⟨sd_zret 104 94 rfl (dk_104_1 (94, .ireturn, 1) (List.mem_of_getElem? (i := 14) rfl)),
  List.forall_mem_cons.mpr ⟨sd_oLdR_n 104 95 0 0 rfl (dk_104_1 (95, .aload_n 0, 1) (List.mem_of_getElem? (i := 15) rfl)),
  List.forall_mem_cons.mpr ⟨sd_oGetR 104 96 7 6 26 RX6 TX6 8 rfl ⟨by decide, by decide⟩ rfl (by decide) rfl (fun w h => iw_104 w (uz_6 w h)) rfl (iw_104 _ zw343) (dk_104_1 (96, .getfield 26, 3) (List.mem_of_getElem? (i := 16) rfl)),
  List.forall_mem_cons.mpr ⟨sd_oLdR_n 104 99 0 0 rfl (dk_104_1 (99, .aload_n 0, 1) (List.mem_of_getElem? (i := 17) rfl)),
  List.forall_mem_cons.mpr ⟨sd_oGetR 104 100 7 6 26 RX6 TX6 8 rfl ⟨by decide, by decide⟩ rfl (by decide) rfl (fun w h => iw_104 w (uz_6 w h)) rfl (iw_104 _ zw343) (dk_104_1 (100, .getfield 26, 3) (List.mem_of_getElem? (i := 18) rfl)),
  List.forall_mem_cons.mpr ⟨sd_oLdI_n 104 103 1 1 rfl (dk_104_1 (103, .iload_n 1, 1) (List.mem_of_getElem? (i := 19) rfl)),
  List.forall_mem_cons.mpr ⟨sd_aaldA 104 104 (dk_104_1 (104, .aaload, 1) (List.mem_of_getElem? (i := 20) rfl)),
  List.forall_mem_cons.mpr ⟨sd_iconst 104 105 3 ⟨by decide, by decide⟩ (dk_104_1 (105, .iconst 3, 1) (List.mem_of_getElem? (i := 21) rfl)),
  List.forall_mem_cons.mpr ⟨sd_iald 104 106 (dk_104_1 (106, .iaload, 1) (List.mem_of_getElem? (i := 22) rfl)),
  List.forall_mem_cons.mpr ⟨sd_aaldA 104 107 (dk_104_1 (107, .aaload, 1) (List.mem_of_getElem? (i := 23) rfl)),
  List.forall_mem_cons.mpr ⟨sd_bipush 104 108 8 ⟨by decide, by decide⟩ (by decide) (dk_104_1 (108, .bipush 8, 2) (List.mem_of_getElem? (i := 24) rfl)),
  List.forall_mem_cons.mpr ⟨sd_iconst 104 110 0 ⟨by decide, by decide⟩ (dk_104_1 (110, .iconst 0, 1) (List.mem_of_getElem? (i := 25) rfl)),
  List.forall_mem_cons.mpr ⟨sd_iast 104 111 (dk_104_1 (111, .iastore, 1) (List.mem_of_getElem? (i := 26) rfl)),
  List.forall_mem_cons.mpr ⟨sd_iconst 104 112 5 ⟨by decide, by decide⟩ (dk_104_1 (112, .iconst 5, 1) (List.mem_of_getElem? (i := 27) rfl)),
  List.forall_mem_cons.mpr ⟨sd_newA 104 113 10 .int (Or.inl ⟨rfl, rfl⟩) (iw_104 _ zw22) (dk_104_1 (113, .newarray .int, 2) (List.mem_of_getElem? (i := 28) rfl)),
  List.forall_mem_cons.mpr ⟨sd_dup 104 115 (dk_104_1 (115, .dup, 1) (List.mem_of_getElem? (i := 29) rfl)),
  List.forall_mem_cons.mpr ⟨sd_iconst 104 116 0 ⟨by decide, by decide⟩ (dk_104_1 (116, .iconst 0, 1) (List.mem_of_getElem? (i := 30) rfl)),
  List.forall_mem_cons.mpr ⟨sd_oLdI_n 104 117 2 2 rfl (dk_104_1 (117, .iload_n 2, 1) (List.mem_of_getElem? (i := 31) rfl)),
  List.forall_mem_cons.mpr ⟨sd_iast 104 118 (dk_104_1 (118, .iastore, 1) (List.mem_of_getElem? (i := 32) rfl)),
  List.forall_mem_cons.mpr ⟨sd_dup 104 119 (dk_104_1 (119, .dup, 1) (List.mem_of_getElem? (i := 33) rfl)),
  List.forall_mem_cons.mpr ⟨sd_iconst 104 120 1 ⟨by decide, by decide⟩ (dk_104_1 (120, .iconst 1, 1) (List.mem_of_getElem? (i := 34) rfl)),
  List.forall_mem_cons.mpr ⟨sd_oLdI_n 104 121 3 3 rfl (dk_104_1 (121, .iload_n 3, 1) (List.mem_of_getElem? (i := 35) rfl)),
  List.forall_mem_cons.mpr ⟨sd_iast 104 122 (dk_104_1 (122, .iastore, 1) (List.mem_of_getElem? (i := 36) rfl)),
  List.forall_mem_cons.mpr ⟨sd_dup 104 123 (dk_104_1 (123, .dup, 1) (List.mem_of_getElem? (i := 37) rfl)),
  List.forall_mem_cons.mpr ⟨sd_iconst 104 124 2 ⟨by decide, by decide⟩ (dk_104_1 (124, .iconst 2, 1) (List.mem_of_getElem? (i := 38) rfl)),
  List.forall_mem_cons.mpr ⟨sd_oLdI_n 104 125 1 1 rfl (dk_104_1 (125, .iload_n 1, 1) (List.mem_of_getElem? (i := 39) rfl)),
  List.forall_mem_cons.mpr ⟨sd_iast 104 126 (dk_104_2 (126, .iastore, 1) (List.mem_of_getElem? (i := 0) rfl)),
  List.forall_mem_cons.mpr ⟨sd_dup 104 127 (dk_104_2 (127, .dup, 1) (List.mem_of_getElem? (i := 1) rfl)),
  fun _ h => nomatch h⟩⟩⟩⟩⟩⟩⟩⟩⟩⟩⟩⟩⟩⟩⟩⟩⟩⟩⟩⟩⟩⟩⟩⟩⟩⟩⟩⟩⟩⟩⟩⟩⟩⟩⟩⟩⟩⟩⟩⟩⟩⟩⟩⟩
def tb_104_2 : List (Nat × Op1) := [(128, oCI 3 1), (129, oLdR 0 1), (130, oGetR 7 6), (133, oLdI 1 1), (134, oALdR 14), (135, oCI 3 1), (136, oALdI 10), (137, oAStI), (138, oDup), (139, oCI 4 1), (140, oCI 0 1), (141, oAStI), (142, oStR 6 2), (144, oLdR 0 1), (145, oLdR 0 1), (146, oGetR 7 6), (149, oLdR 0 1), (150, oGetR 7 6), (153, oALen 14), (154, oLdR 6 2), (156, oCallS 91 3 4 [(2, 180)]), (159, oPutR 7 6), (162, oLdI 5 2), (164, oLdR 0 1), (165, oGetR 7 6), (168, oALen 14), (169, oCI 1 1), (170, oSub), (171, oCne 178), (174, oCI 1 1), (175, oGoto 179), (178, oCI 0 1), (179, oRetZ), (180, oStR 5 2), (182, oLdI 4 2), (184, oZne 191), (187, oCI 1 1), (188, oGoto 192), (191, oCI 0 1)]
theorem sm_104_2 : ∀ q ∈ tb_104_2, SM GwP MdP D A l 104 q.1 q.2 :=
  List.forall_mem_cons.mpr ⟨sd_iconst 104 128 3 ⟨by decide, by decide⟩ (dk_104_2 (128, .iconst 3, 1) (List.mem_of_getElem? (i := 2) rfl)),
  List.forall_mem_cons.mpr ⟨sd_oLdR_n 104 129 0 0 rfl (dk_104_2 (129, .aload_n 0, 1) (List.mem_of_getElem? (i := 3) rfl)),
  List.forall_mem_cons.mpr ⟨sd_oGetR 104 130 7 6 26 RX6 TX6 8 rfl ⟨by decide, by decide⟩ rfl (by decide) rfl (fun w h => iw_104 w (uz_6 w h)) rfl (iw_104 _ zw343) (dk_104_2 (130, .getfield 26, 3) (List.mem_of_getElem? (i := 4) rfl)),
  List.forall_mem_cons.mpr ⟨sd_oLdI_n 104 133 1 1 rfl (dk_104_2 (133, .iload_n 1, 1) (List.mem_of_getElem? (i := 5) rfl)),
  List.forall_mem_cons.mpr ⟨sd_aaldA 104 134 (dk_104_2 (134, .aaload, 1) (List.mem_of_getElem? (i := 6) rfl)),
  List.forall_mem_cons.mpr ⟨sd_iconst 104 135 3 ⟨by decide, by decide⟩ (dk_104_2 (135, .iconst 3, 1) (List.mem_of_getElem? (i := 7) rfl)),
  List.forall_mem_cons.mpr ⟨sd_iald 104 136 (dk_104_2 (136, .iaload, 1) (List.mem_of_getElem? (i := 8) rfl)),
  List.forall_mem_cons.mpr ⟨sd_iast 104 137 (dk_104_2 (137, .iastore, 1) (List.mem_of_getElem? (i := 9) rfl)),
  List.forall_mem_cons.mpr ⟨sd_dup 104 138 (dk_104_2 (138, .dup, 1) (List.mem_of_getElem? (i := 10) rfl)),
  List.forall_mem_cons.mpr ⟨sd_iconst 104 139 4 ⟨by decide, by decide⟩ (dk_104_2 (139, .iconst 4, 1) (List.mem_of_getElem? (i := 11) rfl)),
  List.forall_mem_cons.mpr ⟨sd_iconst 104 140 0 ⟨by decide, by decide⟩ (dk_104_2 (140, .iconst 0, 1) (List.mem_of_getElem? (i := 12) rfl)),
  List.forall_mem_cons.mpr ⟨sd_iast 104 141 (dk_104_2 (141, .iastore, 1) (List.mem_of_getElem? (i := 13) rfl)),
  List.forall_mem_cons.mpr ⟨sd_oStR 104 142 6 (by decide) (dk_104_2 (142, .astore 6, 2) (List.mem_of_getElem? (i := 14) rfl)),
  List.forall_mem_cons.mpr ⟨sd_oLdR_n 104 144 0 0 rfl (dk_104_2 (144, .aload_n 0, 1) (List.mem_of_getElem? (i := 15) rfl)),
  List.forall_mem_cons.mpr ⟨sd_oLdR_n 104 145 0 0 rfl (dk_104_2 (145, .aload_n 0, 1) (List.mem_of_getElem? (i := 16) rfl)),
  List.forall_mem_cons.mpr ⟨sd_oGetR 104 146 7 6 26 RX6 TX6 8 rfl ⟨by decide, by decide⟩ rfl (by decide) rfl (fun w h => iw_104 w (uz_6 w h)) rfl (iw_104 _ zw343) (dk_104_2 (146, .getfield 26, 3) (List.mem_of_getElem? (i := 17) rfl)),
  List.forall_mem_cons.mpr ⟨sd_oLdR_n 104 149 0 0 rfl (dk_104_2 (149, .aload_n 0, 1) (List.mem_of_getElem? (i := 18) rfl)),
  List.forall_mem_cons.mpr ⟨sd_oGetR 104 150 7 6 26 RX6 TX6 8 rfl ⟨by decide, by decide⟩ rfl (by decide) rfl (fun w h => iw_104 w (uz_6 w h)) rfl (iw_104 _ zw343) (dk_104_2 (150, .getfield 26, 3) (List.mem_of_getElem? (i := 19) rfl)),
  List.forall_mem_cons.mpr ⟨sd_alen 104 153 14 ⟨by decide, by decide⟩ (dk_104_2 (153, .arraylength, 1) (List.mem_of_getElem? (i := 20) rfl)),
  List.forall_mem_cons.mpr ⟨sd_oLdR 104 154 6 (dk_104_2 (154, .aload 6, 2) (List.mem_of_getElem? (i := 21) rfl)),
  List.forall_mem_cons.mpr ⟨sd_callS 104 156 91 3 4 75 [(2, 180)] (gdS hws_104 hws_91 zw373 zw374 zw362 zw372) hws_91 rfl (by decide +kernel) rfl rfl ⟨by decide +kernel, by decide +kernel, by decide +kernel⟩ ⟨by decide, by decide⟩ (catch_of (fun h => nomatch h) (List.forall_mem_cons.mpr ⟨⟨[⟨76, 94, 180, 91⟩], ⟨95, 179, 180, 91⟩, [], "java/lang/IllegalStateException", rfl, (List.forall_mem_cons.mpr ⟨Or.inl (by decide), (fun _ h => nomatch h)⟩), by decide, by decide, (iw_104 _ zw379), List.mem_of_getElem? (i := 1) rfl, rfl⟩, (fun _ h => nomatch h)⟩)) (dk_104_2 (156, .invokestatic 75, 3) (List.mem_of_getElem? (i := 22) rfl)),
  List.forall_mem_cons.mpr ⟨sd_oPutR 104 159 7 6 26 RX6 TX6 8 rfl ⟨by decide, by decide⟩ rfl (by decide) rfl (fun w h => iw_104 w (uz_6 w h)) rfl tyX6 tyX6_ok nmX6 (Or.inr ⟨_, rfl⟩) rfl (iw_104 _ zw343) (dk_104_2 (159, .putfield 26, 3) (List.mem_of_getElem? (i := 23) rfl)),
  List.forall_mem_cons.mpr ⟨sd_oLdI 104 162 5 (dk_104_2 (162, .iload 5, 2) (List.mem_of_getElem? (i := 24) rfl)),
  List.forall_mem_cons.mpr ⟨sd_oLdR_n 104 164 0 0 rfl (dk_104_2 (164, .aload_n 0, 1) (List.mem_of_getElem? (i := 25) rfl)),
  List.forall_mem_cons.mpr ⟨sd_oGetR 104 165 7 6 26 RX6 TX6 8 rfl ⟨by decide, by decide⟩ rfl (by decide) rfl (fun w h => iw_104 w (uz_6 w h)) rfl (iw_104 _ zw343) (dk_104_2 (165, .getfield 26, 3) (List.mem_of_getElem? (i := 26) rfl)),
  List.forall_mem_cons.mpr ⟨sd_alen 104 168 14 ⟨by decide, by decide⟩ (dk_104_2 (168, .arraylength, 1) (List.mem_of_getElem? (i := 27) rfl)),
  List.forall_mem_cons.mpr ⟨sd_iconst 104 169 1 ⟨by decide, by decide⟩ (dk_104_2 (169, .iconst 1, 1) (List.mem_of_getElem? (i := 28) rfl)),
  List.forall_mem_cons.mpr ⟨sd_isub 104 170 (dk_104_2 (170, .isub, 1) (List.mem_of_getElem? (i := 29) rfl)),
  List.forall_mem_cons.mpr ⟨sd_icmp_ne 104 171 7 178 (by decide) (dk_104_2 (171, .if_icmp .ne 7, 3) (List.mem_of_getElem? (i := 30) rfl)),
  List.forall_mem_cons.mpr ⟨sd_iconst 104 174 1 ⟨by decide, by decide⟩ (dk_104_2 (174, .iconst 1, 1) (List.mem_of_getElem? (i := 31) rfl)),
  List.forall_mem_cons.mpr ⟨sd_goto 104 175 4 179 (by decide) (dk_104_2 (175, .goto 4, 3) (List.mem_of_getElem? (i := 32) rfl)),
  List.forall_mem_cons.mpr ⟨sd_iconst 104 178 0 ⟨by decide, by decide⟩ (dk_104_2 (178, .iconst 0, 1) (List.mem_of_getElem? (i := 33) rfl)),
  List.forall_mem_cons.mpr ⟨sd_zret 104 179 rfl (dk_104_2 (179, .ireturn, 1) (List.mem_of_getElem? (i := 34) rfl)),
  List.forall_mem_cons.mpr ⟨sd_oStR 104 180 5 (by decide) (dk_104_2 (180, .astore 5, 2) (List.mem_of_getElem? (i := 35) rfl)),
  List.forall_mem_cons.mpr ⟨sd_oLdI 104 182 4 (dk_104_2 (182, .iload 4, 2) (List.mem_of_getElem? (i := 36) rfl)),
  List.forall_mem_cons.mpr ⟨sd_if_ne 104 184 7 191 (by decide) (dk_104_2 (184, .ifCond .ne 7, 3) (List.mem_of_getElem? (i := 37) rfl)),
  List.forall_mem_cons.mpr ⟨sd_iconst 104 187 1 ⟨by decide, by decide⟩ (dk_104_2 (187, .iconst 1, 1) (List.mem_of_getElem? (i := 38) rfl)),
  List.forall_mem_cons.mpr ⟨sd_goto 104 188 4 192 (by decide) (dk_104_2 (188, .goto 4, 3) (List.mem_of_getElem? (i := 39) rfl)),
  List.forall_mem_cons.mpr ⟨sd_iconst 104 191 0 ⟨by decide, by decide⟩ (dk_104_3 (191, .iconst 0, 1) (List.mem_of_getElem? (i := 0) rfl)),
  fun _ h => nomatch h⟩⟩⟩⟩⟩⟩⟩⟩⟩⟩⟩⟩⟩⟩⟩⟩⟩⟩⟩⟩⟩⟩⟩⟩⟩⟩⟩⟩⟩⟩⟩⟩⟩⟩⟩⟩⟩⟩⟩
def tb_104_3 : List (Nat × Op1) := [(192, oRetZ)]
theorem sm_104_3 : ∀ q ∈ tb_104_3, SM GwP MdP D A l 104 q.1 q.2 :=
  List.forall_mem_cons.mpr ⟨sd_zret 104 192 rfl (dk_104_3 (192, .ireturn, 1) (List.mem_of_getElem? (i := 1) rfl)),
  fun _ h => nomatch h⟩
def tb_104 : List (List (Nat × Op1)) := [tb_104_0, tb_104_1, tb_104_2, tb_104_3]
theorem sm_104 : ∀ t ∈ tb_104, ∀ q ∈ t, SM GwP MdP D A l 104 q.1 q.2 := List.forall_mem_cons.mpr ⟨sm_104_0, List.forall_mem_cons.mpr ⟨sm_104_1, List.forall_mem_cons.mpr ⟨sm_104_2, List.forall_mem_cons.mpr ⟨sm_104_3, fun _ h => nomatch h⟩⟩⟩⟩
-- 105: MarginaliaLaw$Page.settle()Z
def dl_105_0 : List (Nat × Instr × Nat) := [(0, .aload_n 0, 1), (1, .invokevirtual 113, 3), (4, .istore_n 1, 1), (5, .iload_n 1, 1), (6, .ifCond .ge 5, 3), (9, .iconst 1, 1), (10, .ireturn, 1), (11, .aload_n 0, 1), (12, .aload_n 0, 1), (13, .getfield 16, 3), (16, .arraylength, 1), (17, .invokevirtual 61, 3), (20, .istore_n 2, 1), (21, .aload_n 0, 1), (22, .getfield 26, 3), (25, .aload_n 0, 1), (26, .getfield 26, 3), (29, .iload_n 1, 1), (30, .aaload, 1), (31, .iconst 3, 1), (32, .iaload, 1), (33, .aaload, 1), (34, .astore_n 3, 1), (35, .aload_n 0, 1), (36, .iconst 3, 1), (37, .invokevirtual 61, 3), (40, .ifCond .le 7, 3), (43, .iconst 1, 1), (44, .goto 4, 3), (47, .iconst 0, 1), (48, .istore 4, 2), (50, .aload_n 0, 1), (51, .iload_n 2, 1), (52, .iload_n 1, 1), (53, .invokevirtual 117, 3), (56, .ifCond .eq 24, 3), (59, .aload_n 3, 1), (60, .iconst 0, 1), (61, .iaload, 1), (62, .iload_n 2, 1)]
theorem dk_105_0 : ∀ q ∈ dl_105_0, decode (mCod (MdP 105)) q.1 = .ok q.2 := by
  rw [show mCod (MdP 105) = cX6_settle from rfl]
  decide +kernel
def dl_105_1 : List (Nat × Instr × Nat) := [(63, .if_icmp .eq 13, 3), (66, .aload_n 0, 1), (67, .getfield 16, 3), (70, .iload_n 2, 1), (71, .iaload, 1), (72, .iconst 3, 1), (73, .if_icmp .lt 7, 3), (76, .iconst 1, 1), (77, .goto 4, 3), (80, .iconst 0, 1), (81, .istore 5, 2), (83, .aload_n 0, 1), (84, .getfield 10, 3), (87, .iload_n 2, 1), (88, .iload_n 1, 1), (89, .iload 4, 2), (91, .invokevirtual 123, 3), (94, .istore 6, 2), (96, .iload 5, 2), (98, .ifCond .eq 21, 3), (101, .iload 6, 2), (103, .aload_n 3, 1), (104, .bipush 8, 2), (106, .iaload, 1), (107, .iconst 1, 1), (108, .if_icmp .ne 7, 3), (111, .iconst 1, 1), (112, .goto 4, 3), (115, .iconst 0, 1), (116, .if_icmp .eq 5, 3), (119, .iconst 0, 1), (120, .ireturn, 1), (121, .aload_n 3, 1), (122, .bipush 8, 2), (124, .iload 4, 2), (126, .ifCond .eq 7, 3), (129, .iconst 1, 1), (130, .goto 4, 3), (133, .iconst 0, 1), (134, .iastore, 1)]
theorem dk_105_1 : ∀ q ∈ dl_105_1, decode (mCod (MdP 105)) q.1 = .ok q.2 := by
  rw [show mCod (MdP 105) = cX6_settle from rfl]
  decide +kernel
def dl_105_2 : List (Nat × Instr × Nat) := [(135, .iconst 1, 1), (136, .ireturn, 1), (137, .astore 6, 2), (139, .iload 5, 2), (141, .ifCond .ne 7, 3), (144, .iconst 1, 1), (145, .goto 4, 3), (148, .iconst 0, 1), (149, .ireturn, 1)]
theorem dk_105_2 : ∀ q ∈ dl_105_2, decode (mCod (MdP 105)) q.1 = .ok q.2 := by
  rw [show mCod (MdP 105) = cX6_settle from rfl]
  decide +kernel
def tb_105_0 : List (Nat × Op1) := [(0, oLdR 0 1), (1, oCallV 103 0 6 7 []), (4, oStI 1 1), (5, oLdI 1 1), (6, oZge 11), (9, oCI 1 1), (10, oRetZ), (11, oLdR 0 1), (12, oLdR 0 1), (13, oGetR 7 3), (16, oALen 10), (17, oCallV 90 1 3 7 []), (20, oStI 2 1), (21, oLdR 0 1), (22, oGetR 7 6), (25, oLdR 0 1), (26, oGetR 7 6), (29, oLdI 1 1), (30, oALdR 14), (31, oCI 3 1), (32, oALdI 10), (33, oALdR 14), (34, oStR 3 1), (35, oLdR 0 1), (36, oCI 3 1), (37, oCallV 90 1 3 7 []), (40, oZle 47), (43, oCI 1 1), (44, oGoto 48), (47, oCI 0 1), (48, oStI 4 2), (50, oLdR 0 1), (51, oLdI 2 1), (52, oLdI 1 1), (53, oCallV 101 2 3 7 []), (56, oZeq 80), (59, oLdR 3 1), (60, oCI 0 1), (61, oALdI 10), (62, oLdI 2 1), (63, oCeq 76)]
theorem sm_105_0 : ∀ q ∈ tb_105_0, SM GwP MdP D A l 105 q.1 q.2 :=
  List.forall_mem_cons.mpr ⟨sd_oLdR_n 105 0 0 0 rfl (dk_105_0 (0, .aload_n 0, 1) (List.mem_of_getElem? (i := 0) rfl)),
  List.forall_mem_cons.mpr ⟨sd_callV 105 1 103 0 6 113 7 [] (gdV hws_105 hws_103 zw406 zw407 zw408 zw362 zw405) hws_103 rfl (by decide +kernel) rfl rfl ⟨by decide +kernel, by decide +kernel, by decide +kernel⟩ ⟨by decide, by decide⟩ (catch_of (fun _ => by decide +kernel) (fun _ h => nomatch h)) RX6 rfl TX6 8 rfl ⟨by decide, by decide⟩ (dk_105_0 (1, .invokevirtual 113, 3) (List.mem_of_getElem? (i := 1) rfl)),
  List.forall_mem_cons.mpr ⟨sd_oStI_n 105 4 1 1 rfl (by decide) (dk_105_0 (4, .istore_n 1, 1) (List.mem_of_getElem? (i := 2) rfl)),
  List.forall_mem_cons.mpr ⟨sd_oLdI_n 105 5 1 1 rfl (dk_105_0 (5, .iload_n 1, 1) (List.mem_of_getElem? (i := 3) rfl)),
  List.forall_mem_cons.mpr ⟨sd_if_ge 105 6 5 11 (by decide) (dk_105_0 (6, .ifCond .ge 5, 3) (List.mem_of_getElem? (i := 4) rfl)),
  List.forall_mem_cons.mpr ⟨sd_iconst 105 9 1 ⟨by decide, by decide⟩ (dk_105_0 (9, .iconst 1, 1) (List.mem_of_getElem? (i := 5) rfl)),
  List.forall_mem_cons.mpr ⟨sd_zret 105 10 rfl (dk_105_0 (10, .ireturn, 1) (List.mem_of_getElem? (i := 6) rfl)),
  List.forall_mem_cons.mpr ⟨sd_oLdR_n 105 11 0 0 rfl (dk_105_0 (11, .aload_n 0, 1) (List.mem_of_getElem? (i := 7) rfl)),
  List.forall_mem_cons.mpr ⟨sd_oLdR_n 105 12 0 0 rfl (dk_105_0 (12, .aload_n 0, 1) (List.mem_of_getElem? (i := 8) rfl)),
  List.forall_mem_cons.mpr ⟨sd_oGetR 105 13 7 3 16 RX6 TX6 8 rfl ⟨by decide, by decide⟩ rfl (by decide) rfl (fun w h => iw_105 w (uz_6 w h)) rfl (iw_105 _ zw339) (dk_105_0 (13, .getfield 16, 3) (List.mem_of_getElem? (i := 9) rfl)),
  List.forall_mem_cons.mpr ⟨sd_alen 105 16 10 ⟨by decide, by decide⟩ (dk_105_0 (16, .arraylength, 1) (List.mem_of_getElem? (i := 10) rfl)),
  List.forall_mem_cons.mpr ⟨sd_callV 105 17 90 1 3 61 7 [] (gdV hws_105 hws_90 zw359 zw360 zw361 zw362 zw358) hws_90 rfl (by decide +kernel) rfl rfl ⟨by decide +kernel, by decide +kernel, by decide +kernel⟩ ⟨by decide, by decide⟩ (catch_of (fun _ => by decide +kernel) (fun _ h => nomatch h)) RX6 rfl TX6 8 rfl ⟨by decide, by decide⟩ (dk_105_0 (17, .invokevirtual 61, 3) (List.mem_of_getElem? (i := 11) rfl)),
  List.forall_mem_cons.mpr ⟨sd_oStI_n 105 20 2 2 rfl (by decide) (dk_105_0 (20, .istore_n 2, 1) (List.mem_of_getElem? (i := 12) rfl)),
  List.forall_mem_cons.mpr ⟨sd_oLdR_n 105 21 0 0 rfl (dk_105_0 (21, .aload_n 0, 1) (List.mem_of_getElem? (i := 13) rfl)),
  List.forall_mem_cons.mpr ⟨sd_oGetR 105 22 7 6 26 RX6 TX6 8 rfl ⟨by decide, by decide⟩ rfl (by decide) rfl (fun w h => iw_105 w (uz_6 w h)) rfl (iw_105 _ zw343) (dk_105_0 (22, .getfield 26, 3) (List.mem_of_getElem? (i := 14) rfl)),
  List.forall_mem_cons.mpr ⟨sd_oLdR_n 105 25 0 0 rfl (dk_105_0 (25, .aload_n 0, 1) (List.mem_of_getElem? (i := 15) rfl)),
  List.forall_mem_cons.mpr ⟨sd_oGetR 105 26 7 6 26 RX6 TX6 8 rfl ⟨by decide, by decide⟩ rfl (by decide) rfl (fun w h => iw_105 w (uz_6 w h)) rfl (iw_105 _ zw343) (dk_105_0 (26, .getfield 26, 3) (List.mem_of_getElem? (i := 16) rfl)),
  List.forall_mem_cons.mpr ⟨sd_oLdI_n 105 29 1 1 rfl (dk_105_0 (29, .iload_n 1, 1) (List.mem_of_getElem? (i := 17) rfl)),
  List.forall_mem_cons.mpr ⟨sd_aaldA 105 30 (dk_105_0 (30, .aaload, 1) (List.mem_of_getElem? (i := 18) rfl)),
  List.forall_mem_cons.mpr ⟨sd_iconst 105 31 3 ⟨by decide, by decide⟩ (dk_105_0 (31, .iconst 3, 1) (List.mem_of_getElem? (i := 19) rfl)),
  List.forall_mem_cons.mpr ⟨sd_iald 105 32 (dk_105_0 (32, .iaload, 1) (List.mem_of_getElem? (i := 20) rfl)),
  List.forall_mem_cons.mpr ⟨sd_aaldA 105 33 (dk_105_0 (33, .aaload, 1) (List.mem_of_getElem? (i := 21) rfl)),
  List.forall_mem_cons.mpr ⟨sd_oStR_n 105 34 3 3 rfl (by decide) (dk_105_0 (34, .astore_n 3, 1) (List.mem_of_getElem? (i := 22) rfl)),
  List.forall_mem_cons.mpr ⟨sd_oLdR_n 105 35 0 0 rfl (dk_105_0 (35, .aload_n 0, 1) (List.mem_of_getElem? (i := 23) rfl)),
  List.forall_mem_cons.mpr ⟨sd_iconst 105 36 3 ⟨by decide, by decide⟩ (dk_105_0 (36, .iconst 3, 1) (List.mem_of_getElem? (i := 24) rfl)),
  List.forall_mem_cons.mpr ⟨sd_callV 105 37 90 1 3 61 7 [] (gdV hws_105 hws_90 zw359 zw360 zw361 zw362 zw358) hws_90 rfl (by decide +kernel) rfl rfl ⟨by decide +kernel, by decide +kernel, by decide +kernel⟩ ⟨by decide, by decide⟩ (catch_of (fun _ => by decide +kernel) (fun _ h => nomatch h)) RX6 rfl TX6 8 rfl ⟨by decide, by decide⟩ (dk_105_0 (37, .invokevirtual 61, 3) (List.mem_of_getElem? (i := 25) rfl)),
  List.forall_mem_cons.mpr ⟨sd_if_le 105 40 7 47 (by decide) (dk_105_0 (40, .ifCond .le 7, 3) (List.mem_of_getElem? (i := 26) rfl)),
  List.forall_mem_cons.mpr ⟨sd_iconst 105 43 1 ⟨by decide, by decide⟩ (dk_105_0 (43, .iconst 1, 1) (List.mem_of_getElem? (i := 27) rfl)),
  List.forall_mem_cons.mpr ⟨sd_goto 105 44 4 48 (by decide) (dk_105_0 (44, .goto 4, 3) (List.mem_of_getElem? (i := 28) rfl)),
  List.forall_mem_cons.mpr ⟨sd_iconst 105 47 0 ⟨by decide, by decide⟩ (dk_105_0 (47, .iconst 0, 1) (List.mem_of_getElem? (i := 29) rfl)),
  List.forall_mem_cons.mpr ⟨sd_oStI 105 48 4 (by decide) (dk_105_0 (48, .istore 4, 2) (List.mem_of_getElem? (i := 30) rfl)),
  List.forall_mem_cons.mpr ⟨sd_oLdR_n 105 50 0 0 rfl (dk_105_0 (50, .aload_n 0, 1) (List.mem_of_getElem? (i := 31) rfl)),
  List.forall_mem_cons.mpr ⟨sd_oLdI_n 105 51 2 2 rfl (dk_105_0 (51, .iload_n 2, 1) (List.mem_of_getElem? (i := 32) rfl)),
  List.forall_mem_cons.mpr ⟨sd_oLdI_n 105 52 1 1 rfl (dk_105_0 (52, .iload_n 1, 1) (List.mem_of_getElem? (i := 33) rfl)),
  List.forall_mem_cons.mpr ⟨sd_callV 105 53 101 2 3 117 7 [] (gdV hws_105 hws_101 zw410 zw411 zw412 zw362 zw409) hws_101 rfl (by decide +kernel) rfl rfl ⟨by decide +kernel, by decide +kernel, by decide +kernel⟩ ⟨by decide, by decide⟩ (catch_of (fun _ => by decide +kernel) (fun _ h => nomatch h)) RX6 rfl TX6 8 rfl ⟨by decide, by decide⟩ (dk_105_0 (53, .invokevirtual 117, 3) (List.mem_of_getElem? (i := 34) rfl)),
  List.forall_mem_cons.mpr ⟨sd_if_eq 105 56 24 80 (by decide) (dk_105_0 (56, .ifCond .eq 24, 3) (List.mem_of_getElem? (i := 35) rfl)),
  List.forall_mem_cons.mpr ⟨sd_oLdR_n 105 59 3 3 rfl (dk_105_0 (59, .aload_n 3, 1) (List.mem_of_getElem? (i := 36) rfl)),
  List.forall_mem_cons.mpr ⟨sd_iconst 105 60 0 ⟨by decide, by decide⟩ (dk_105_0 (60, .iconst 0, 1) (List.mem_of_getElem? (i := 37) rfl)),
  List.forall_mem_cons.mpr ⟨sd_iald 105 61 (dk_105_0 (61, .iaload, 1) (List.mem_of_getElem? (i := 38) rfl)),
  List.forall_mem_cons.mpr ⟨sd_oLdI_n 105 62 2 2 rfl (dk_105_0 (62, .iload_n 2, 1) (List.mem_of_getElem? (i := 39) rfl)),
  List.forall_mem_cons.mpr ⟨sd_icmp_eq 105 63 13 76 (by decide) (dk_105_1 (63, .if_icmp .eq 13, 3) (List.mem_of_getElem? (i := 0) rfl)),
  fun _ h => nomatch h⟩⟩⟩⟩⟩⟩⟩⟩⟩⟩⟩⟩⟩⟩⟩⟩⟩⟩⟩⟩⟩⟩⟩⟩⟩⟩⟩⟩⟩⟩⟩⟩⟩⟩⟩⟩⟩⟩⟩⟩⟩
def tb_105_1 : List (Nat × Op1) := [(66, oLdR 0 1), (67, oGetR 7 3), (70, oLdI 2 1), (71, oALdI 10), (72, oCI 3 1), (73, oClt 80), (76, oCI 1 1), (77, oGoto 81), (80, oCI 0 1), (81, oStI 5 2), (83, oLdR 0 1), (84, oGetR 7 0), (87, oLdI 2 1), (88, oLdI 1 1), (89, oLdI 4 2), (91, oCallV 42 3 7 6 [(2, 137)]), (94, oStI 6 2), (96, oLdI 5 2), (98, oZeq 119), (101, oLdI 6 2), (103, oLdR 3 1), (104, oCI 8 2), (106, oALdI 10), (107, oCI 1 1), (108, oCne 115), (111, oCI 1 1), (112, oGoto 116), (115, oCI 0 1), (116, oCeq 121), (119, oCI 0 1), (120, oRetZ), (121, oLdR 3 1), (122, oCI 8 2), (124, oLdI 4 2), (126, oZeq 133)]
theorem sm_105_1 : ∀ q ∈ tb_105_1, SM GwP MdP D A l 105 q.1 q.2 :=
  List.forall_mem_cons.mpr ⟨sd_oLdR_n 105 66 0 0 rfl (dk_105_1 (66, .aload_n 0, 1) (List.mem_of_getElem? (i := 1) rfl)),
  List.forall_mem_cons.mpr ⟨sd_oGetR 105 67 7 3 16 RX6 TX6 8 rfl ⟨by decide, by decide⟩ rfl (by decide) rfl (fun w h => iw_105 w (uz_6 w h)) rfl (iw_105 _ zw339) (dk_105_1 (67, .getfield 16, 3) (List.mem_of_getElem? (i := 2) rfl)),
  List.forall_mem_cons.mpr ⟨sd_oLdI_n 105 70 2 2 rfl (dk_105_1 (70, .iload_n 2, 1) (List.mem_of_getElem? (i := 3) rfl)),
  List.forall_mem_cons.mpr ⟨sd_iald 105 71 (dk_105_1 (71, .iaload, 1) (List.mem_of_getElem? (i := 4) rfl)),
  List.forall_mem_cons.mpr ⟨sd_iconst 105 72 3 ⟨by decide, by decide⟩ (dk_105_1 (72, .iconst 3, 1) (List.mem_of_getElem? (i := 5) rfl)),
  List.forall_mem_cons.mpr ⟨sd_icmp_lt 105 73 7 80 (by decide) (dk_105_1 (73, .if_icmp .lt 7, 3) (List.mem_of_getElem? (i := 6) rfl)),
  List.forall_mem_cons.mpr ⟨sd_iconst 105 76 1 ⟨by decide, by decide⟩ (dk_105_1 (76, .iconst 1, 1) (List.mem_of_getElem? (i := 7) rfl)),
  List.forall_mem_cons.mpr ⟨sd_goto 105 77 4 81 (by decide) (dk_105_1 (77, .goto 4, 3) (List.mem_of_getElem? (i := 8) rfl)),
  List.forall_mem_cons.mpr ⟨sd_iconst 105 80 0 ⟨by decide, by decide⟩ (dk_105_1 (80, .iconst 0, 1) (List.mem_of_getElem? (i := 9) rfl)),
  List.forall_mem_cons.mpr ⟨sd_oStI 105 81 5 (by decide) (dk_105_1 (81, .istore 5, 2) (List.mem_of_getElem? (i := 10) rfl)),
  List.forall_mem_cons.mpr ⟨sd_oLdR_n 105 83 0 0 rfl (dk_105_1 (83, .aload_n 0, 1) (List.mem_of_getElem? (i := 11) rfl)),
  List.forall_mem_cons.mpr ⟨sd_oGetR 105 84 7 0 10 RX6 TX6 8 rfl ⟨by decide, by decide⟩ rfl (by decide) rfl (fun w h => iw_105 w (uz_6 w h)) rfl (iw_105 _ zw338) (dk_105_1 (84, .getfield 10, 3) (List.mem_of_getElem? (i := 12) rfl)),
  List.forall_mem_cons.mpr ⟨sd_oLdI_n 105 87 2 2 rfl (dk_105_1 (87, .iload_n 2, 1) (List.mem_of_getElem? (i := 13) rfl)),
  List.forall_mem_cons.mpr ⟨sd_oLdI_n 105 88 1 1 rfl (dk_105_1 (88, .iload_n 1, 1) (List.mem_of_getElem? (i := 14) rfl)),
  List.forall_mem_cons.mpr ⟨sd_oLdI 105 89 4 (dk_105_1 (89, .iload 4, 2) (List.mem_of_getElem? (i := 15) rfl)),
  List.forall_mem_cons.mpr ⟨sd_callV 105 91 42 3 7 123 6 [(2, 137)] (gdV hws_105 hws_42 zw418 zw419 zw420 zw63 zw417) hws_42 rfl (by decide +kernel) rfl rfl ⟨by decide +kernel, by decide +kernel, by decide +kernel⟩ ⟨by decide, by decide⟩ (catch_of (fun h => nomatch h) (List.forall_mem_cons.mpr ⟨⟨[], ⟨83, 120, 137, 91⟩, [⟨121, 136, 137, 91⟩], "java/lang/IllegalStateException", rfl, (fun _ h => nomatch h), by decide, by decide, (iw_105 _ zw379), List.mem_of_getElem? (i := 1) rfl, rfl⟩, (fun _ h => nomatch h)⟩)) RX5 rfl TX5 7 rfl ⟨by decide, by decide⟩ (dk_105_1 (91, .invokevirtual 123, 3) (List.mem_of_getElem? (i := 16) rfl)),
  List.forall_mem_cons.mpr ⟨sd_oStI 105 94 6 (by decide) (dk_105_1 (94, .istore 6, 2) (List.mem_of_getElem? (i := 17) rfl)),
  List.forall_mem_cons.mpr ⟨sd_oLdI 105 96 5 (dk_105_1 (96, .iload 5, 2) (List.mem_of_getElem? (i := 18) rfl)),
  List.forall_mem_cons.mpr ⟨sd_if_eq 105 98 21 119 (by decide) (dk_105_1 (98, .ifCond .eq 21, 3) (List.mem_of_getElem? (i := 19) rfl)),
  List.forall_mem_cons.mpr ⟨sd_oLdI 105 101 6 (dk_105_1 (101, .iload 6, 2) (List.mem_of_getElem? (i := 20) rfl)),
  List.forall_mem_cons.mpr ⟨sd_oLdR_n 105 103 3 3 rfl (dk_105_1 (103, .aload_n 3, 1) (List.mem_of_getElem? (i := 21) rfl)),
  List.forall_mem_cons.mpr ⟨sd_bipush 105 104 8 ⟨by decide, by decide⟩ (by decide) (dk_105_1 (104, .bipush 8, 2) (List.mem_of_getElem? (i := 22) rfl)),
  List.forall_mem_cons.mpr ⟨sd_iald 105 106 (dk_105_1 (106, .iaload, 1) (List.mem_of_getElem? (i := 23) rfl)),
  List.forall_mem_cons.mpr ⟨sd_iconst 105 107 1 ⟨by decide, by decide⟩ (dk_105_1 (107, .iconst 1, 1) (List.mem_of_getElem? (i := 24) rfl)),
  List.forall_mem_cons.mpr ⟨sd_icmp_ne 105 108 7 115 (by decide) (dk_105_1 (108, .if_icmp .ne 7, 3) (List.mem_of_getElem? (i := 25) rfl)),
  List.forall_mem_cons.mpr ⟨sd_iconst 105 111 1 ⟨by decide, by decide⟩ (dk_105_1 (111, .iconst 1, 1) (List.mem_of_getElem? (i := 26) rfl)),
  List.forall_mem_cons.mpr ⟨sd_goto 105 112 4 116 (by decide) (dk_105_1 (112, .goto 4, 3) (List.mem_of_getElem? (i := 27) rfl)),
  List.forall_mem_cons.mpr ⟨sd_iconst 105 115 0 ⟨by decide, by decide⟩ (dk_105_1 (115, .iconst 0, 1) (List.mem_of_getElem? (i := 28) rfl)),
  List.forall_mem_cons.mpr ⟨sd_icmp_eq 105 116 5 121 (by decide) (dk_105_1 (116, .if_icmp .eq 5, 3) (List.mem_of_getElem? (i := 29) rfl)),
  List.forall_mem_cons.mpr ⟨sd_iconst 105 119 0 ⟨by decide, by decide⟩ (dk_105_1 (119, .iconst 0, 1) (List.mem_of_getElem? (i := 30) rfl)),
  List.forall_mem_cons.mpr ⟨sd_zret 105 120 rfl (dk_105_1 (120, .ireturn, 1) (List.mem_of_getElem? (i := 31) rfl)),
  List.forall_mem_cons.mpr ⟨sd_oLdR_n 105 121 3 3 rfl (dk_105_1 (121, .aload_n 3, 1) (List.mem_of_getElem? (i := 32) rfl)),
  List.forall_mem_cons.mpr ⟨sd_bipush 105 122 8 ⟨by decide, by decide⟩ (by decide) (dk_105_1 (122, .bipush 8, 2) (List.mem_of_getElem? (i := 33) rfl)),
  List.forall_mem_cons.mpr ⟨sd_oLdI 105 124 4 (dk_105_1 (124, .iload 4, 2) (List.mem_of_getElem? (i := 34) rfl)),
  List.forall_mem_cons.mpr ⟨sd_if_eq 105 126 7 133 (by decide) (dk_105_1 (126, .ifCond .eq 7, 3) (List.mem_of_getElem? (i := 35) rfl)),
  fun _ h => nomatch h⟩⟩⟩⟩⟩⟩⟩⟩⟩⟩⟩⟩⟩⟩⟩⟩⟩⟩⟩⟩⟩⟩⟩⟩⟩⟩⟩⟩⟩⟩⟩⟩⟩⟩⟩
def tb_105_2 : List (Nat × Op1) := [(129, oCI 1 1), (130, oGoto 134), (133, oCI 0 1), (134, oAStI), (135, oCI 1 1), (136, oRetZ), (137, oStR 6 2), (139, oLdI 5 2), (141, oZne 148), (144, oCI 1 1), (145, oGoto 149), (148, oCI 0 1), (149, oRetZ)]
theorem sm_105_2 : ∀ q ∈ tb_105_2, SM GwP MdP D A l 105 q.1 q.2 :=
  List.forall_mem_cons.mpr ⟨sd_iconst 105 129 1 ⟨by decide, by decide⟩ (dk_105_1 (129, .iconst 1, 1) (List.mem_of_getElem? (i := 36) rfl)),
  List.forall_mem_cons.mpr ⟨sd_goto 105 130 4 134 (by decide) (dk_105_1 (130, .goto 4, 3) (List.mem_of_getElem? (i := 37) rfl)),
  List.forall_mem_cons.mpr ⟨sd_iconst 105 133 0 ⟨by decide, by decide⟩ (dk_105_1 (133, .iconst 0, 1) (List.mem_of_getElem? (i := 38) rfl)),
  List.forall_mem_cons.mpr ⟨sd_iast 105 134 (dk_105_1 (134, .iastore, 1) (List.mem_of_getElem? (i := 39) rfl)),
  List.forall_mem_cons.mpr ⟨sd_iconst 105 135 1 ⟨by decide, by decide⟩ (dk_105_2 (135, .iconst 1, 1) (List.mem_of_getElem? (i := 0) rfl)),
  List.forall_mem_cons.mpr ⟨sd_zret 105 136 rfl (dk_105_2 (136, .ireturn, 1) (List.mem_of_getElem? (i := 1) rfl)),
  List.forall_mem_cons.mpr ⟨sd_oStR 105 137 6 (by decide) (dk_105_2 (137, .astore 6, 2) (List.mem_of_getElem? (i := 2) rfl)),
  List.forall_mem_cons.mpr ⟨sd_oLdI 105 139 5 (dk_105_2 (139, .iload 5, 2) (List.mem_of_getElem? (i := 3) rfl)),
  List.forall_mem_cons.mpr ⟨sd_if_ne 105 141 7 148 (by decide) (dk_105_2 (141, .ifCond .ne 7, 3) (List.mem_of_getElem? (i := 4) rfl)),
  List.forall_mem_cons.mpr ⟨sd_iconst 105 144 1 ⟨by decide, by decide⟩ (dk_105_2 (144, .iconst 1, 1) (List.mem_of_getElem? (i := 5) rfl)),
  List.forall_mem_cons.mpr ⟨sd_goto 105 145 4 149 (by decide) (dk_105_2 (145, .goto 4, 3) (List.mem_of_getElem? (i := 6) rfl)),
  List.forall_mem_cons.mpr ⟨sd_iconst 105 148 0 ⟨by decide, by decide⟩ (dk_105_2 (148, .iconst 0, 1) (List.mem_of_getElem? (i := 7) rfl)),
  List.forall_mem_cons.mpr ⟨sd_zret 105 149 rfl (dk_105_2 (149, .ireturn, 1) (List.mem_of_getElem? (i := 8) rfl)),
  fun _ h => nomatch h⟩⟩⟩⟩⟩⟩⟩⟩⟩⟩⟩⟩⟩
def tb_105 : List (List (Nat × Op1)) := [tb_105_0, tb_105_1, tb_105_2]
theorem sm_105 : ∀ t ∈ tb_105, ∀ q ∈ t, SM GwP MdP D A l 105 q.1 q.2 := List.forall_mem_cons.mpr ⟨sm_105_0, List.forall_mem_cons.mpr ⟨sm_105_1, List.forall_mem_cons.mpr ⟨sm_105_2, fun _ h => nomatch h⟩⟩⟩
-- 106: MarginaliaLaw$Page.replies(I)I
def dl_106_0 : List (Nat × Instr × Nat) := [(0, .iconst 0, 1), (1, .istore_n 2, 1), (2, .aload_n 0, 1), (3, .getfield 26, 3), (6, .astore_n 3, 1), (7, .aload_n 3, 1), (8, .arraylength, 1), (9, .istore 4, 2), (11, .iconst 0, 1), (12, .istore 5, 2), (14, .iload 5, 2), (16, .iload 4, 2), (18, .if_icmp .ge 39, 3), (21, .aload_n 3, 1), (22, .iload 5, 2), (24, .aaload, 1), (25, .astore 6, 2), (27, .iload_n 2, 1), (28, .aload 6, 2), (30, .iconst 2, 1), (31, .iaload, 1), (32, .iload_n 1, 1), (33, .if_icmp .ne 15, 3), (36, .aload 6, 2), (38, .iconst 4, 1), (39, .iaload, 1), (40, .iconst 2, 1), (41, .if_icmp .ge 7, 3), (44, .iconst 1, 1), (45, .goto 4, 3), (48, .iconst 0, 1), (49, .iadd, 1), (50, .istore_n 2, 1), (51, .iinc 5 1, 3), (54, .goto (-40), 3), (57, .iload_n 2, 1), (58, .ireturn, 1)]
theorem dk_106_0 : ∀ q ∈ dl_106_0, decode (mCod (MdP 106)) q.1 = .ok q.2 := by
  rw [show mCod (MdP 106) = cX6_replies from rfl]
  decide +kernel
def tb_106_0 : List (Nat × Op1) := [(0, oCI 0 1), (1, oStI 2 1), (2, oLdR 0 1), (3, oGetR 7 6), (6, oStR 3 1), (7, oLdR 3 1), (8, oALen 14), (9, oStI 4 2), (11, oCI 0 1), (12, oStI 5 2), (14, oLdI 5 2), (16, oLdI 4 2), (18, oCge 57), (21, oLdR 3 1), (22, oLdI 5 2), (24, oALdR 14), (25, oStR 6 2), (27, oLdI 2 1), (28, oLdR 6 2), (30, oCI 2 1), (31, oALdI 10), (32, oLdI 1 1), (33, oCne 48), (36, oLdR 6 2), (38, oCI 4 1), (39, oALdI 10), (40, oCI 2 1), (41, oCge 48), (44, oCI 1 1), (45, oGoto 49), (48, oCI 0 1), (49, oAdd), (50, oStI 2 1), (51, oInc 5 1), (54, oGoto 14), (57, oLdI 2 1), (58, oRetI)]
theorem sm_106_0 : ∀ q ∈ tb_106_0, SM GwP MdP D A l 106 q.1 q.2 :=
  List.forall_mem_cons.mpr ⟨sd_iconst 106 0 0 ⟨by decide, by decide⟩ (dk_106_0 (0, .iconst 0, 1) (List.mem_of_getElem? (i := 0) rfl)),
  List.forall_mem_cons.mpr ⟨sd_oStI_n 106 1 2 2 rfl (by decide) (dk_106_0 (1, .istore_n 2, 1) (List.mem_of_getElem? (i := 1) rfl)),
  List.forall_mem_cons.mpr ⟨sd_oLdR_n 106 2 0 0 rfl (dk_106_0 (2, .aload_n 0, 1) (List.mem_of_getElem? (i := 2) rfl)),
  List.forall_mem_cons.mpr ⟨sd_oGetR 106 3 7 6 26 RX6 TX6 8 rfl ⟨by decide, by decide⟩ rfl (by decide) rfl (fun w h => iw_106 w (uz_6 w h)) rfl (iw_106 _ zw343) (dk_106_0 (3, .getfield 26, 3) (List.mem_of_getElem? (i := 3) rfl)),
  List.forall_mem_cons.mpr ⟨sd_oStR_n 106 6 3 3 rfl (by decide) (dk_106_0 (6, .astore_n 3, 1) (List.mem_of_getElem? (i := 4) rfl)),
  List.forall_mem_cons.mpr ⟨sd_oLdR_n 106 7 3 3 rfl (dk_106_0 (7, .aload_n 3, 1) (List.mem_of_getElem? (i := 5) rfl)),
  List.forall_mem_cons.mpr ⟨sd_alen 106 8 14 ⟨by decide, by decide⟩ (dk_106_0 (8, .arraylength, 1) (List.mem_of_getElem? (i := 6) rfl)),
  List.forall_mem_cons.mpr ⟨sd_oStI 106 9 4 (by decide) (dk_106_0 (9, .istore 4, 2) (List.mem_of_getElem? (i := 7) rfl)),
  List.forall_mem_cons.mpr ⟨sd_iconst 106 11 0 ⟨by decide, by decide⟩ (dk_106_0 (11, .iconst 0, 1) (List.mem_of_getElem? (i := 8) rfl)),
  List.forall_mem_cons.mpr ⟨sd_oStI 106 12 5 (by decide) (dk_106_0 (12, .istore 5, 2) (List.mem_of_getElem? (i := 9) rfl)),
  List.forall_mem_cons.mpr ⟨sd_oLdI 106 14 5 (dk_106_0 (14, .iload 5, 2) (List.mem_of_getElem? (i := 10) rfl)),
  List.forall_mem_cons.mpr ⟨sd_oLdI 106 16 4 (dk_106_0 (16, .iload 4, 2) (List.mem_of_getElem? (i := 11) rfl)),
  List.forall_mem_cons.mpr ⟨sd_icmp_ge 106 18 39 57 (by decide) (dk_106_0 (18, .if_icmp .ge 39, 3) (List.mem_of_getElem? (i := 12) rfl)),
  List.forall_mem_cons.mpr ⟨sd_oLdR_n 106 21 3 3 rfl (dk_106_0 (21, .aload_n 3, 1) (List.mem_of_getElem? (i := 13) rfl)),
  List.forall_mem_cons.mpr ⟨sd_oLdI 106 22 5 (dk_106_0 (22, .iload 5, 2) (List.mem_of_getElem? (i := 14) rfl)),
  List.forall_mem_cons.mpr ⟨sd_aaldA 106 24 (dk_106_0 (24, .aaload, 1) (List.mem_of_getElem? (i := 15) rfl)),
  List.forall_mem_cons.mpr ⟨sd_oStR 106 25 6 (by decide) (dk_106_0 (25, .astore 6, 2) (List.mem_of_getElem? (i := 16) rfl)),
  List.forall_mem_cons.mpr ⟨sd_oLdI_n 106 27 2 2 rfl (dk_106_0 (27, .iload_n 2, 1) (List.mem_of_getElem? (i := 17) rfl)),
  List.forall_mem_cons.mpr ⟨sd_oLdR 106 28 6 (dk_106_0 (28, .aload 6, 2) (List.mem_of_getElem? (i := 18) rfl)),
  List.forall_mem_cons.mpr ⟨sd_iconst 106 30 2 ⟨by decide, by decide⟩ (dk_106_0 (30, .iconst 2, 1) (List.mem_of_getElem? (i := 19) rfl)),
  List.forall_mem_cons.mpr ⟨sd_iald 106 31 (dk_106_0 (31, .iaload, 1) (List.mem_of_getElem? (i := 20) rfl)),
  List.forall_mem_cons.mpr ⟨sd_oLdI_n 106 32 1 1 rfl (dk_106_0 (32, .iload_n 1, 1) (List.mem_of_getElem? (i := 21) rfl)),
  List.forall_mem_cons.mpr ⟨sd_icmp_ne 106 33 15 48 (by decide) (dk_106_0 (33, .if_icmp .ne 15, 3) (List.mem_of_getElem? (i := 22) rfl)),
  List.forall_mem_cons.mpr ⟨sd_oLdR 106 36 6 (dk_106_0 (36, .aload 6, 2) (List.mem_of_getElem? (i := 23) rfl)),
  List.forall_mem_cons.mpr ⟨sd_iconst 106 38 4 ⟨by decide, by decide⟩ (dk_106_0 (38, .iconst 4, 1) (List.mem_of_getElem? (i := 24) rfl)),
  List.forall_mem_cons.mpr ⟨sd_iald 106 39 (dk_106_0 (39, .iaload, 1) (List.mem_of_getElem? (i := 25) rfl)),
  List.forall_mem_cons.mpr ⟨sd_iconst 106 40 2 ⟨by decide, by decide⟩ (dk_106_0 (40, .iconst 2, 1) (List.mem_of_getElem? (i := 26) rfl)),
  List.forall_mem_cons.mpr ⟨sd_icmp_ge 106 41 7 48 (by decide) (dk_106_0 (41, .if_icmp .ge 7, 3) (List.mem_of_getElem? (i := 27) rfl)),
  List.forall_mem_cons.mpr ⟨sd_iconst 106 44 1 ⟨by decide, by decide⟩ (dk_106_0 (44, .iconst 1, 1) (List.mem_of_getElem? (i := 28) rfl)),
  List.forall_mem_cons.mpr ⟨sd_goto 106 45 4 49 (by decide) (dk_106_0 (45, .goto 4, 3) (List.mem_of_getElem? (i := 29) rfl)),
  List.forall_mem_cons.mpr ⟨sd_iconst 106 48 0 ⟨by decide, by decide⟩ (dk_106_0 (48, .iconst 0, 1) (List.mem_of_getElem? (i := 30) rfl)),
  List.forall_mem_cons.mpr ⟨sd_iadd 106 49 (dk_106_0 (49, .iadd, 1) (List.mem_of_getElem? (i := 31) rfl)),
  List.forall_mem_cons.mpr ⟨sd_oStI_n 106 50 2 2 rfl (by decide) (dk_106_0 (50, .istore_n 2, 1) (List.mem_of_getElem? (i := 32) rfl)),
  List.forall_mem_cons.mpr ⟨sd_iinc 106 51 5 1 (by decide) (dk_106_0 (51, .iinc 5 1, 3) (List.mem_of_getElem? (i := 33) rfl)),
  List.forall_mem_cons.mpr ⟨sd_goto 106 54 (-40) 14 (by decide) (dk_106_0 (54, .goto (-40), 3) (List.mem_of_getElem? (i := 34) rfl)),
  List.forall_mem_cons.mpr ⟨sd_oLdI_n 106 57 2 2 rfl (dk_106_0 (57, .iload_n 2, 1) (List.mem_of_getElem? (i := 35) rfl)),
  List.forall_mem_cons.mpr ⟨sd_iret 106 58 rfl (dk_106_0 (58, .ireturn, 1) (List.mem_of_getElem? (i := 36) rfl)),
  fun _ h => nomatch h⟩⟩⟩⟩⟩⟩⟩⟩⟩⟩⟩⟩⟩⟩⟩⟩⟩⟩⟩⟩⟩⟩⟩⟩⟩⟩⟩⟩⟩⟩⟩⟩⟩⟩⟩⟩⟩
def tb_106 : List (List (Nat × Op1)) := [tb_106_0]
theorem sm_106 : ∀ t ∈ tb_106, ∀ q ∈ t, SM GwP MdP D A l 106 q.1 q.2 := List.forall_mem_cons.mpr ⟨sm_106_0, fun _ h => nomatch h⟩
-- 107: MarginaliaLaw$Page.remove()Z
def dl_107_0 : List (Nat × Instr × Nat) := [(0, .aload_n 0, 1), (1, .invokevirtual 113, 3), (4, .istore_n 1, 1), (5, .iload_n 1, 1), (6, .ifCond .ge 5, 3), (9, .iconst 1, 1), (10, .ireturn, 1), (11, .aload_n 0, 1), (12, .aload_n 0, 1), (13, .getfield 16, 3), (16, .arraylength, 1), (17, .invokevirtual 61, 3), (20, .istore_n 2, 1), (21, .aload_n 0, 1), (22, .iload_n 2, 1), (23, .iload_n 1, 1), (24, .invokevirtual 117, 3), (27, .ifCond .eq 40, 3), (30, .aload_n 0, 1), (31, .getfield 26, 3), (34, .iload_n 1, 1), (35, .aaload, 1), (36, .iconst 0, 1), (37, .iaload, 1), (38, .iload_n 2, 1), (39, .if_icmp .eq 13, 3), (42, .aload_n 0, 1), (43, .getfield 16, 3), (46, .iload_n 2, 1), (47, .iaload, 1), (48, .iconst 4, 1), (49, .if_icmp .ne 18, 3), (52, .aload_n 0, 1), (53, .getfield 26, 3), (56, .iload_n 1, 1), (57, .aaload, 1), (58, .iconst 4, 1), (59, .iaload, 1), (60, .ifCond .ne 7, 3), (63, .iconst 1, 1)]
theorem dk_107_0 : ∀ q ∈ dl_107_0, decode (mCod (MdP 107)) q.1 = .ok q.2 := by
  rw [show mCod (MdP 107) = cX6_remove from rfl]
  decide +kernel
def dl_107_1 : List (Nat × Instr × Nat) := [(64, .goto 4, 3), (67, .iconst 0, 1), (68, .istore_n 3, 1), (69, .aload_n 0, 1), (70, .getfield 10, 3), (73, .iload_n 2, 1), (74, .iload_n 1, 1), (75, .invokevirtual 127, 3), (78, .istore 4, 2), (80, .iload_n 3, 1), (81, .ifCond .ne 5, 3), (84, .iconst 0, 1), (85, .ireturn, 1), (86, .aload_n 0, 1), (87, .getfield 26, 3), (90, .iload_n 1, 1), (91, .aaload, 1), (92, .iconst 4, 1), (93, .iconst 1, 1), (94, .iastore, 1), (95, .iload_n 1, 1), (96, .istore 5, 2), (98, .iconst 0, 1), (99, .istore 6, 2), (101, .iload 5, 2), (103, .ifCond .lt 52, 3), (106, .aload_n 0, 1), (107, .getfield 26, 3), (110, .iload 5, 2), (112, .aaload, 1), (113, .iconst 4, 1), (114, .iaload, 1), (115, .iconst 1, 1), (116, .if_icmp .ne 39, 3), (119, .aload_n 0, 1), (120, .iload 5, 2), (122, .invokevirtual 130, 3), (125, .ifCond .ne 30, 3), (128, .aload_n 0, 1), (129, .getfield 26, 3)]
theorem dk_107_1 : ∀ q ∈ dl_107_1, decode (mCod (MdP 107)) q.1 = .ok q.2 := by
  rw [show mCod (MdP 107) = cX6_remove from rfl]
  decide +kernel
def dl_107_2 : List (Nat × Instr × Nat) := [(132, .iload 5, 2), (134, .aaload, 1), (135, .iconst 4, 1), (136, .iconst 2, 1), (137, .iastore, 1), (138, .iinc 6 1, 3), (141, .aload_n 0, 1), (142, .getfield 26, 3), (145, .iload 5, 2), (147, .aaload, 1), (148, .iconst 2, 1), (149, .iaload, 1), (150, .istore 5, 2), (152, .goto (-51), 3), (155, .iload 4, 2), (157, .iload 6, 2), (159, .if_icmp .ne 7, 3), (162, .iconst 1, 1), (163, .goto 4, 3), (166, .iconst 0, 1), (167, .ireturn, 1), (168, .astore 4, 2), (170, .iload_n 3, 1), (171, .ifCond .ne 7, 3), (174, .iconst 1, 1), (175, .goto 4, 3), (178, .iconst 0, 1), (179, .ireturn, 1)]
theorem dk_107_2 : ∀ q ∈ dl_107_2, decode (mCod (MdP 107)) q.1 = .ok q.2 := by
  rw [show mCod (MdP 107) = cX6_remove from rfl]
  decide +kernel
def tb_107_0 : List (Nat × Op1) := [(0, oLdR 0 1), (1, oCallV 103 0 6 7 []), (4, oStI 1 1), (5, oLdI 1 1), (6, oZge 11), (9, oCI 1 1), (10, oRetZ), (11, oLdR 0 1), (12, oLdR 0 1), (13, oGetR 7 3), (16, oALen 10), (17, oCallV 90 1 3 7 []), (20, oStI 2 1), (21, oLdR 0 1), (22, oLdI 2 1), (23, oLdI 1 1), (24, oCallV 101 2 3 7 []), (27, oZeq 67), (30, oLdR 0 1), (31, oGetR 7 6), (34, oLdI 1 1), (35, oALdR 14), (36, oCI 0 1), (37, oALdI 10), (38, oLdI 2 1), (39, oCeq 52), (42, oLdR 0 1), (43, oGetR 7 3), (46, oLdI 2 1), (47, oALdI 10), (48, oCI 4 1), (49, oCne 67), (52, oLdR 0 1), (53, oGetR 7 6), (56, oLdI 1 1), (57, oALdR 14), (58, oCI 4 1), (59, oALdI 10), (60, oZne 67), (63, oCI 1 1)]
theorem sm_107_0 : ∀ q ∈ tb_107_0, SM GwP MdP D A l 107 q.1 q.2 :=
  List.forall_mem_cons.mpr ⟨sd_oLdR_n 107 0 0 0 rfl (dk_107_0 (0, .aload_n 0, 1) (List.mem_of_getElem? (i := 0) rfl)),
  List.forall_mem_cons.mpr ⟨sd_callV 107 1 103 0 6 113 7 [] (gdV hws_107 hws_103 zw406 zw407 zw408 zw362 zw405) hws_103 rfl (by decide +kernel) rfl rfl ⟨by decide +kernel, by decide +kernel, by decide +kernel⟩ ⟨by decide, by decide⟩ (catch_of (fun _ => by decide +kernel) (fun _ h => nomatch h)) RX6 rfl TX6 8 rfl ⟨by decide, by decide⟩ (dk_107_0 (1, .invokevirtual 113, 3) (List.mem_of_getElem? (i := 1) rfl)),
  List.forall_mem_cons.mpr ⟨sd_oStI_n 107 4 1 1 rfl (by decide) (dk_107_0 (4, .istore_n 1, 1) (List.mem_of_getElem? (i := 2) rfl)),
  List.forall_mem_cons.mpr ⟨sd_oLdI_n 107 5 1 1 rfl (dk_107_0 (5, .iload_n 1, 1) (List.mem_of_getElem? (i := 3) rfl)),
  List.forall_mem_cons.mpr ⟨sd_if_ge 107 6 5 11 (by decide) (dk_107_0 (6, .ifCond .ge 5, 3) (List.mem_of_getElem? (i := 4) rfl)),
  List.forall_mem_cons.mpr ⟨sd_iconst 107 9 1 ⟨by decide, by decide⟩ (dk_107_0 (9, .iconst 1, 1) (List.mem_of_getElem? (i := 5) rfl)),
  List.forall_mem_cons.mpr ⟨sd_zret 107 10 rfl (dk_107_0 (10, .ireturn, 1) (List.mem_of_getElem? (i := 6) rfl)),
  List.forall_mem_cons.mpr ⟨sd_oLdR_n 107 11 0 0 rfl (dk_107_0 (11, .aload_n 0, 1) (List.mem_of_getElem? (i := 7) rfl)),
  List.forall_mem_cons.mpr ⟨sd_oLdR_n 107 12 0 0 rfl (dk_107_0 (12, .aload_n 0, 1) (List.mem_of_getElem? (i := 8) rfl)),
  List.forall_mem_cons.mpr ⟨sd_oGetR 107 13 7 3 16 RX6 TX6 8 rfl ⟨by decide, by decide⟩ rfl (by decide) rfl (fun w h => iw_107 w (uz_6 w h)) rfl (iw_107 _ zw339) (dk_107_0 (13, .getfield 16, 3) (List.mem_of_getElem? (i := 9) rfl)),
  List.forall_mem_cons.mpr ⟨sd_alen 107 16 10 ⟨by decide, by decide⟩ (dk_107_0 (16, .arraylength, 1) (List.mem_of_getElem? (i := 10) rfl)),
  List.forall_mem_cons.mpr ⟨sd_callV 107 17 90 1 3 61 7 [] (gdV hws_107 hws_90 zw359 zw360 zw361 zw362 zw358) hws_90 rfl (by decide +kernel) rfl rfl ⟨by decide +kernel, by decide +kernel, by decide +kernel⟩ ⟨by decide, by decide⟩ (catch_of (fun _ => by decide +kernel) (fun _ h => nomatch h)) RX6 rfl TX6 8 rfl ⟨by decide, by decide⟩ (dk_107_0 (17, .invokevirtual 61, 3) (List.mem_of_getElem? (i := 11) rfl)),
  List.forall_mem_cons.mpr ⟨sd_oStI_n 107 20 2 2 rfl (by decide) (dk_107_0 (20, .istore_n 2, 1) (List.mem_of_getElem? (i := 12) rfl)),
  List.forall_mem_cons.mpr ⟨sd_oLdR_n 107 21 0 0 rfl (dk_107_0 (21, .aload_n 0, 1) (List.mem_of_getElem? (i := 13) rfl)),
  List.forall_mem_cons.mpr ⟨sd_oLdI_n 107 22 2 2 rfl (dk_107_0 (22, .iload_n 2, 1) (List.mem_of_getElem? (i := 14) rfl)),
  List.forall_mem_cons.mpr ⟨sd_oLdI_n 107 23 1 1 rfl (dk_107_0 (23, .iload_n 1, 1) (List.mem_of_getElem? (i := 15) rfl)),
  List.forall_mem_cons.mpr ⟨sd_callV 107 24 101 2 3 117 7 [] (gdV hws_107 hws_101 zw410 zw411 zw412 zw362 zw409) hws_101 rfl (by decide +kernel) rfl rfl ⟨by decide +kernel, by decide +kernel, by decide +kernel⟩ ⟨by decide, by decide⟩ (catch_of (fun _ => by decide +kernel) (fun _ h => nomatch h)) RX6 rfl TX6 8 rfl ⟨by decide, by decide⟩ (dk_107_0 (24, .invokevirtual 117, 3) (List.mem_of_getElem? (i := 16) rfl)),
  List.forall_mem_cons.mpr ⟨sd_if_eq 107 27 40 67 (by decide) (dk_107_0 (27, .ifCond .eq 40, 3) (List.mem_of_getElem? (i := 17) rfl)),
  List.forall_mem_cons.mpr ⟨sd_oLdR_n 107 30 0 0 rfl (dk_107_0 (30, .aload_n 0, 1) (List.mem_of_getElem? (i := 18) rfl)),
  List.forall_mem_cons.mpr ⟨sd_oGetR 107 31 7 6 26 RX6 TX6 8 rfl ⟨by decide, by decide⟩ rfl (by decide) rfl (fun w h => iw_107 w (uz_6 w h)) rfl (iw_107 _ zw343) (dk_107_0 (31, .getfield 26, 3) (List.mem_of_getElem? (i := 19) rfl)),
  List.forall_mem_cons.mpr ⟨sd_oLdI_n 107 34 1 1 rfl (dk_107_0 (34, .iload_n 1, 1) (List.mem_of_getElem? (i := 20) rfl)),
  List.forall_mem_cons.mpr ⟨sd_aaldA 107 35 (dk_107_0 (35, .aaload, 1) (List.mem_of_getElem? (i := 21) rfl)),
  List.forall_mem_cons.mpr ⟨sd_iconst 107 36 0 ⟨by decide, by decide⟩ (dk_107_0 (36, .iconst 0, 1) (List.mem_of_getElem? (i := 22) rfl)),
  List.forall_mem_cons.mpr ⟨sd_iald 107 37 (dk_107_0 (37, .iaload, 1) (List.mem_of_getElem? (i := 23) rfl)),
  List.forall_mem_cons.mpr ⟨sd_oLdI_n 107 38 2 2 rfl (dk_107_0 (38, .iload_n 2, 1) (List.mem_of_getElem? (i := 24) rfl)),
  List.forall_mem_cons.mpr ⟨sd_icmp_eq 107 39 13 52 (by decide) (dk_107_0 (39, .if_icmp .eq 13, 3) (List.mem_of_getElem? (i := 25) rfl)),
  List.forall_mem_cons.mpr ⟨sd_oLdR_n 107 42 0 0 rfl (dk_107_0 (42, .aload_n 0, 1) (List.mem_of_getElem? (i := 26) rfl)),
  List.forall_mem_cons.mpr ⟨sd_oGetR 107 43 7 3 16 RX6 TX6 8 rfl ⟨by decide, by decide⟩ rfl (by decide) rfl (fun w h => iw_107 w (uz_6 w h)) rfl (iw_107 _ zw339) (dk_107_0 (43, .getfield 16, 3) (List.mem_of_getElem? (i := 27) rfl)),
  List.forall_mem_cons.mpr ⟨sd_oLdI_n 107 46 2 2 rfl (dk_107_0 (46, .iload_n 2, 1) (List.mem_of_getElem? (i := 28) rfl)),
  List.forall_mem_cons.mpr ⟨sd_iald 107 47 (dk_107_0 (47, .iaload, 1) (List.mem_of_getElem? (i := 29) rfl)),
  List.forall_mem_cons.mpr ⟨sd_iconst 107 48 4 ⟨by decide, by decide⟩ (dk_107_0 (48, .iconst 4, 1) (List.mem_of_getElem? (i := 30) rfl)),
  List.forall_mem_cons.mpr ⟨sd_icmp_ne 107 49 18 67 (by decide) (dk_107_0 (49, .if_icmp .ne 18, 3) (List.mem_of_getElem? (i := 31) rfl)),
  List.forall_mem_cons.mpr ⟨sd_oLdR_n 107 52 0 0 rfl (dk_107_0 (52, .aload_n 0, 1) (List.mem_of_getElem? (i := 32) rfl)),
  List.forall_mem_cons.mpr ⟨sd_oGetR 107 53 7 6 26 RX6 TX6 8 rfl ⟨by decide, by decide⟩ rfl (by decide) rfl (fun w h => iw_107 w (uz_6 w h)) rfl (iw_107 _ zw343) (dk_107_0 (53, .getfield 26, 3) (List.mem_of_getElem? (i := 33) rfl)),
  List.forall_mem_cons.mpr ⟨sd_oLdI_n 107 56 1 1 rfl (dk_107_0 (56, .iload_n 1, 1) (List.mem_of_getElem? (i := 34) rfl)),
  List.forall_mem_cons.mpr ⟨sd_aaldA 107 57 (dk_107_0 (57, .aaload, 1) (List.mem_of_getElem? (i := 35) rfl)),
  List.forall_mem_cons.mpr ⟨sd_iconst 107 58 4 ⟨by decide, by decide⟩ (dk_107_0 (58, .iconst 4, 1) (List.mem_of_getElem? (i := 36) rfl)),
  List.forall_mem_cons.mpr ⟨sd_iald 107 59 (dk_107_0 (59, .iaload, 1) (List.mem_of_getElem? (i := 37) rfl)),
  List.forall_mem_cons.mpr ⟨sd_if_ne 107 60 7 67 (by decide) (dk_107_0 (60, .ifCond .ne 7, 3) (List.mem_of_getElem? (i := 38) rfl)),
  List.forall_mem_cons.mpr ⟨sd_iconst 107 63 1 ⟨by decide, by decide⟩ (dk_107_0 (63, .iconst 1, 1) (List.mem_of_getElem? (i := 39) rfl)),
  fun _ h => nomatch h⟩⟩⟩⟩⟩⟩⟩⟩⟩⟩⟩⟩⟩⟩⟩⟩⟩⟩⟩⟩⟩⟩⟩⟩⟩⟩⟩⟩⟩⟩⟩⟩⟩⟩⟩⟩⟩⟩⟩⟩
def tb_107_1 : List (Nat × Op1) := [(64, oGoto 68), (67, oCI 0 1), (68, oStI 3 1), (69, oLdR 0 1), (70, oGetR 7 0), (73, oLdI 2 1), (74, oLdI 1 1), (75, oCallV 43 2 4 6 [(2, 168)]), (78, oStI 4 2), (80, oLdI 3 1), (81, oZne 86), (84, oCI 0 1), (85, oRetZ), (86, oLdR 0 1), (87, oGetR 7 6), (90, oLdI 1 1), (91, oALdR 14), (92, oCI 4 1), (93, oCI 1 1), (94, oAStI), (95, oLdI 1 1), (96, oStI 5 2), (98, oCI 0 1), (99, oStI 6 2), (101, oLdI 5 2), (103, oZlt 155), (106, oLdR 0 1), (107, oGetR 7 6), (110, oLdI 5 2), (112, oALdR 14), (113, oCI 4 1), (114, oALdI 10), (115, oCI 1 1), (116, oCne 155), (119, oLdR 0 1), (120, oLdI 5 2), (122, oCallV 106 1 7 7 [(2, 168)]), (125, oZne 155)]
theorem sm_107_1 : ∀ q ∈ tb_107_1, SM GwP MdP D A l 107 q.1 q.2 :=
  List.forall_mem_cons.mpr ⟨sd_goto 107 64 4 68 (by decide) (dk_107_1 (64, .goto 4, 3) (List.mem_of_getElem? (i := 0) rfl)),
  List.forall_mem_cons.mpr ⟨sd_iconst 107 67 0 ⟨by decide, by decide⟩ (dk_107_1 (67, .iconst 0, 1) (List.mem_of_getElem? (i := 1) rfl)),
  List.forall_mem_cons.mpr ⟨sd_oStI_n 107 68 3 3 rfl (by decide) (dk_107_1 (68, .istore_n 3, 1) (List.mem_of_getElem? (i := 2) rfl)),
  List.forall_mem_cons.mpr ⟨sd_oLdR_n 107 69 0 0 rfl (dk_107_1 (69, .aload_n 0, 1) (List.mem_of_getElem? (i := 3) rfl)),
  List.forall_mem_cons.mpr ⟨sd_oGetR 107 70 7 0 10 RX6 TX6 8 rfl ⟨by decide, by decide⟩ rfl (by decide) rfl (fun w h => iw_107 w (uz_6 w h)) rfl (iw_107 _ zw338) (dk_107_1 (70, .getfield 10, 3) (List.mem_of_getElem? (i := 4) rfl)),
  List.forall_mem_cons.mpr ⟨sd_oLdI_n 107 73 2 2 rfl (dk_107_1 (73, .iload_n 2, 1) (List.mem_of_getElem? (i := 5) rfl)),
  List.forall_mem_cons.mpr ⟨sd_oLdI_n 107 74 1 1 rfl (dk_107_1 (74, .iload_n 1, 1) (List.mem_of_getElem? (i := 6) rfl)),
  List.forall_mem_cons.mpr ⟨sd_callV 107 75 43 2 4 127 6 [(2, 168)] (gdV hws_107 hws_43 zw422 zw423 zw424 zw63 zw421) hws_43 rfl (by decide +kernel) rfl rfl ⟨by decide +kernel, by decide +kernel, by decide +kernel⟩ ⟨by decide, by decide⟩ (catch_of (fun h => nomatch h) (List.forall_mem_cons.mpr ⟨⟨[], ⟨69, 85, 168, 91⟩, [⟨86, 167, 168, 91⟩], "java/lang/IllegalStateException", rfl, (fun _ h => nomatch h), by decide, by decide, (iw_107 _ zw379), List.mem_of_getElem? (i := 1) rfl, rfl⟩, (fun _ h => nomatch h)⟩)) RX5 rfl TX5 7 rfl ⟨by decide, by decide⟩ (dk_107_1 (75, .invokevirtual 127, 3) (List.mem_of_getElem? (i := 7) rfl)),
  List.forall_mem_cons.mpr ⟨sd_oStI 107 78 4 (by decide) (dk_107_1 (78, .istore 4, 2) (List.mem_of_getElem? (i := 8) rfl)),
  List.forall_mem_cons.mpr ⟨sd_oLdI_n 107 80 3 3 rfl (dk_107_1 (80, .iload_n 3, 1) (List.mem_of_getElem? (i := 9) rfl)),
  List.forall_mem_cons.mpr ⟨sd_if_ne 107 81 5 86 (by decide) (dk_107_1 (81, .ifCond .ne 5, 3) (List.mem_of_getElem? (i := 10) rfl)),
  List.forall_mem_cons.mpr ⟨sd_iconst 107 84 0 ⟨by decide, by decide⟩ (dk_107_1 (84, .iconst 0, 1) (List.mem_of_getElem? (i := 11) rfl)),
  List.forall_mem_cons.mpr ⟨sd_zret 107 85 rfl (dk_107_1 (85, .ireturn, 1) (List.mem_of_getElem? (i := 12) rfl)),
  List.forall_mem_cons.mpr ⟨sd_oLdR_n 107 86 0 0 rfl (dk_107_1 (86, .aload_n 0, 1) (List.mem_of_getElem? (i := 13) rfl)),
  List.forall_mem_cons.mpr ⟨sd_oGetR 107 87 7 6 26 RX6 TX6 8 rfl ⟨by decide, by decide⟩ rfl (by decide) rfl (fun w h => iw_107 w (uz_6 w h)) rfl (iw_107 _ zw343) (dk_107_1 (87, .getfield 26, 3) (List.mem_of_getElem? (i := 14) rfl)),
  List.forall_mem_cons.mpr ⟨sd_oLdI_n 107 90 1 1 rfl (dk_107_1 (90, .iload_n 1, 1) (List.mem_of_getElem? (i := 15) rfl)),
  List.forall_mem_cons.mpr ⟨sd_aaldA 107 91 (dk_107_1 (91, .aaload, 1) (List.mem_of_getElem? (i := 16) rfl)),
  List.forall_mem_cons.mpr ⟨sd_iconst 107 92 4 ⟨by decide, by decide⟩ (dk_107_1 (92, .iconst 4, 1) (List.mem_of_getElem? (i := 17) rfl)),
  List.forall_mem_cons.mpr ⟨sd_iconst 107 93 1 ⟨by decide, by decide⟩ (dk_107_1 (93, .iconst 1, 1) (List.mem_of_getElem? (i := 18) rfl)),
  List.forall_mem_cons.mpr ⟨sd_iast 107 94 (dk_107_1 (94, .iastore, 1) (List.mem_of_getElem? (i := 19) rfl)),
  List.forall_mem_cons.mpr ⟨sd_oLdI_n 107 95 1 1 rfl (dk_107_1 (95, .iload_n 1, 1) (List.mem_of_getElem? (i := 20) rfl)),
  List.forall_mem_cons.mpr ⟨sd_oStI 107 96 5 (by decide) (dk_107_1 (96, .istore 5, 2) (List.mem_of_getElem? (i := 21) rfl)),
  List.forall_mem_cons.mpr ⟨sd_iconst 107 98 0 ⟨by decide, by decide⟩ (dk_107_1 (98, .iconst 0, 1) (List.mem_of_getElem? (i := 22) rfl)),
  List.forall_mem_cons.mpr ⟨sd_oStI 107 99 6 (by decide) (dk_107_1 (99, .istore 6, 2) (List.mem_of_getElem? (i := 23) rfl)),
  List.forall_mem_cons.mpr ⟨sd_oLdI 107 101 5 (dk_107_1 (101, .iload 5, 2) (List.mem_of_getElem? (i := 24) rfl)),
  List.forall_mem_cons.mpr ⟨sd_if_lt 107 103 52 155 (by decide) (dk_107_1 (103, .ifCond .lt 52, 3) (List.mem_of_getElem? (i := 25) rfl)),
  List.forall_mem_cons.mpr ⟨sd_oLdR_n 107 106 0 0 rfl (dk_107_1 (106, .aload_n 0, 1) (List.mem_of_getElem? (i := 26) rfl)),
  List.forall_mem_cons.mpr ⟨sd_oGetR 107 107 7 6 26 RX6 TX6 8 rfl ⟨by decide, by decide⟩ rfl (by decide) rfl (fun w h => iw_107 w (uz_6 w h)) rfl (iw_107 _ zw343) (dk_107_1 (107, .getfield 26, 3) (List.mem_of_getElem? (i := 27) rfl)),
  List.forall_mem_cons.mpr ⟨sd_oLdI 107 110 5 (dk_107_1 (110, .iload 5, 2) (List.mem_of_getElem? (i := 28) rfl)),
  List.forall_mem_cons.mpr ⟨sd_aaldA 107 112 (dk_107_1 (112, .aaload, 1) (List.mem_of_getElem? (i := 29) rfl)),
  List.forall_mem_cons.mpr ⟨sd_iconst 107 113 4 ⟨by decide, by decide⟩ (dk_107_1 (113, .iconst 4, 1) (List.mem_of_getElem? (i := 30) rfl)),
  List.forall_mem_cons.mpr ⟨sd_iald 107 114 (dk_107_1 (114, .iaload, 1) (List.mem_of_getElem? (i := 31) rfl)),
  List.forall_mem_cons.mpr ⟨sd_iconst 107 115 1 ⟨by decide, by decide⟩ (dk_107_1 (115, .iconst 1, 1) (List.mem_of_getElem? (i := 32) rfl)),
  List.forall_mem_cons.mpr ⟨sd_icmp_ne 107 116 39 155 (by decide) (dk_107_1 (116, .if_icmp .ne 39, 3) (List.mem_of_getElem? (i := 33) rfl)),
  List.forall_mem_cons.mpr ⟨sd_oLdR_n 107 119 0 0 rfl (dk_107_1 (119, .aload_n 0, 1) (List.mem_of_getElem? (i := 34) rfl)),
  List.forall_mem_cons.mpr ⟨sd_oLdI 107 120 5 (dk_107_1 (120, .iload 5, 2) (List.mem_of_getElem? (i := 35) rfl)),
  List.forall_mem_cons.mpr ⟨sd_callV 107 122 106 1 7 130 7 [(2, 168)] (gdV hws_107 hws_106 zw426 zw427 zw428 zw362 zw425) hws_106 rfl (by decide +kernel) rfl rfl ⟨by decide +kernel, by decide +kernel, by decide +kernel⟩ ⟨by decide, by decide⟩ (catch_of (fun h => nomatch h) (List.forall_mem_cons.mpr ⟨⟨[⟨69, 85, 168, 91⟩], ⟨86, 167, 168, 91⟩, [], "java/lang/IllegalStateException", rfl, (List.forall_mem_cons.mpr ⟨Or.inl (by decide), (fun _ h => nomatch h)⟩), by decide, by decide, (iw_107 _ zw379), List.mem_of_getElem? (i := 1) rfl, rfl⟩, (fun _ h => nomatch h)⟩)) RX6 rfl TX6 8 rfl ⟨by decide, by decide⟩ (dk_107_1 (122, .invokevirtual 130, 3) (List.mem_of_getElem? (i := 36) rfl)),
  List.forall_mem_cons.mpr ⟨sd_if_ne 107 125 30 155 (by decide) (dk_107_1 (125, .ifCond .ne 30, 3) (List.mem_of_getElem? (i := 37) rfl)),
  fun _ h => nomatch h⟩⟩⟩⟩⟩⟩⟩⟩⟩⟩⟩⟩⟩⟩⟩⟩⟩⟩⟩⟩⟩⟩⟩⟩⟩⟩⟩⟩⟩⟩⟩⟩⟩⟩⟩⟩⟩⟩
def tb_107_2 : List (Nat × Op1) := [(128, oLdR 0 1), (129, oGetR 7 6), (132, oLdI 5 2), (134, oALdR 14), (135, oCI 4 1), (136, oCI 2 1), (137, oAStI), (138, oInc 6 1), (141, oLdR 0 1), (142, oGetR 7 6), (145, oLdI 5 2), (147, oALdR 14), (148, oCI 2 1), (149, oALdI 10), (150, oStI 5 2), (152, oGoto 101), (155, oLdI 4 2), (157, oLdI 6 2), (159, oCne 166), (162, oCI 1 1), (163, oGoto 167), (166, oCI 0 1), (167, oRetZ), (168, oStR 4 2), (170, oLdI 3 1), (171, oZne 178), (174, oCI 1 1), (175, oGoto 179), (178, oCI 0 1), (179, oRetZ)]
theorem sm_107_2 : ∀ q ∈ tb_107_2, SM GwP MdP D A l 107 q.1 q.2 :=
  List.forall_mem_cons.mpr ⟨sd_oLdR_n 107 128 0 0 rfl (dk_107_1 (128, .aload_n 0, 1) (List.mem_of_getElem? (i := 38) rfl)),
  List.forall_mem_cons.mpr ⟨sd_oGetR 107 129 7 6 26 RX6 TX6 8 rfl ⟨by decide, by decide⟩ rfl (by decide) rfl (fun w h => iw_107 w (uz_6 w h)) rfl (iw_107 _ zw343) (dk_107_1 (129, .getfield 26, 3) (List.mem_of_getElem? (i := 39) rfl)),
  List.forall_mem_cons.mpr ⟨sd_oLdI 107 132 5 (dk_107_2 (132, .iload 5, 2) (List.mem_of_getElem? (i := 0) rfl)),
  List.forall_mem_cons.mpr ⟨sd_aaldA 107 134 (dk_107_2 (134, .aaload, 1) (List.mem_of_getElem? (i := 1) rfl)),
  List.forall_mem_cons.mpr ⟨sd_iconst 107 135 4 ⟨by decide, by decide⟩ (dk_107_2 (135, .iconst 4, 1) (List.mem_of_getElem? (i := 2) rfl)),
  List.forall_mem_cons.mpr ⟨sd_iconst 107 136 2 ⟨by decide, by decide⟩ (dk_107_2 (136, .iconst 2, 1) (List.mem_of_getElem? (i := 3) rfl)),
  List.forall_mem_cons.mpr ⟨sd_iast 107 137 (dk_107_2 (137, .iastore, 1) (List.mem_of_getElem? (i := 4) rfl)),
  List.forall_mem_cons.mpr ⟨sd_iinc 107 138 6 1 (by decide) (dk_107_2 (138, .iinc 6 1, 3) (List.mem_of_getElem? (i := 5) rfl)),
  List.forall_mem_cons.mpr ⟨sd_oLdR_n 107 141 0 0 rfl (dk_107_2 (141, .aload_n 0, 1) (List.mem_of_getElem? (i := 6) rfl)),
  List.forall_mem_cons.mpr ⟨sd_oGetR 107 142 7 6 26 RX6 TX6 8 rfl ⟨by decide, by decide⟩ rfl (by decide) rfl (fun w h => iw_107 w (uz_6 w h)) rfl (iw_107 _ zw343) (dk_107_2 (142, .getfield 26, 3) (List.mem_of_getElem? (i := 7) rfl)),
  List.forall_mem_cons.mpr ⟨sd_oLdI 107 145 5 (dk_107_2 (145, .iload 5, 2) (List.mem_of_getElem? (i := 8) rfl)),
  List.forall_mem_cons.mpr ⟨sd_aaldA 107 147 (dk_107_2 (147, .aaload, 1) (List.mem_of_getElem? (i := 9) rfl)),
  List.forall_mem_cons.mpr ⟨sd_iconst 107 148 2 ⟨by decide, by decide⟩ (dk_107_2 (148, .iconst 2, 1) (List.mem_of_getElem? (i := 10) rfl)),
  List.forall_mem_cons.mpr ⟨sd_iald 107 149 (dk_107_2 (149, .iaload, 1) (List.mem_of_getElem? (i := 11) rfl)),
  List.forall_mem_cons.mpr ⟨sd_oStI 107 150 5 (by decide) (dk_107_2 (150, .istore 5, 2) (List.mem_of_getElem? (i := 12) rfl)),
  List.forall_mem_cons.mpr ⟨sd_goto 107 152 (-51) 101 (by decide) (dk_107_2 (152, .goto (-51), 3) (List.mem_of_getElem? (i := 13) rfl)),
  List.forall_mem_cons.mpr ⟨sd_oLdI 107 155 4 (dk_107_2 (155, .iload 4, 2) (List.mem_of_getElem? (i := 14) rfl)),
  List.forall_mem_cons.mpr ⟨sd_oLdI 107 157 6 (dk_107_2 (157, .iload 6, 2) (List.mem_of_getElem? (i := 15) rfl)),
  List.forall_mem_cons.mpr ⟨sd_icmp_ne 107 159 7 166 (by decide) (dk_107_2 (159, .if_icmp .ne 7, 3) (List.mem_of_getElem? (i := 16) rfl)),
  List.forall_mem_cons.mpr ⟨sd_iconst 107 162 1 ⟨by decide, by decide⟩ (dk_107_2 (162, .iconst 1, 1) (List.mem_of_getElem? (i := 17) rfl)),
  List.forall_mem_cons.mpr ⟨sd_goto 107 163 4 167 (by decide) (dk_107_2 (163, .goto 4, 3) (List.mem_of_getElem? (i := 18) rfl)),
  List.forall_mem_cons.mpr ⟨sd_iconst 107 166 0 ⟨by decide, by decide⟩ (dk_107_2 (166, .iconst 0, 1) (List.mem_of_getElem? (i := 19) rfl)),
  List.forall_mem_cons.mpr ⟨sd_zret 107 167 rfl (dk_107_2 (167, .ireturn, 1) (List.mem_of_getElem? (i := 20) rfl)),
  List.forall_mem_cons.mpr ⟨sd_oStR 107 168 4 (by decide) (dk_107_2 (168, .astore 4, 2) (List.mem_of_getElem? (i := 21) rfl)),
  List.forall_mem_cons.mpr ⟨sd_oLdI_n 107 170 3 3 rfl (dk_107_2 (170, .iload_n 3, 1) (List.mem_of_getElem? (i := 22) rfl)),
  List.forall_mem_cons.mpr ⟨sd_if_ne 107 171 7 178 (by decide) (dk_107_2 (171, .ifCond .ne 7, 3) (List.mem_of_getElem? (i := 23) rfl)),
  List.forall_mem_cons.mpr ⟨sd_iconst 107 174 1 ⟨by decide, by decide⟩ (dk_107_2 (174, .iconst 1, 1) (List.mem_of_getElem? (i := 24) rfl)),
  List.forall_mem_cons.mpr ⟨sd_goto 107 175 4 179 (by decide) (dk_107_2 (175, .goto 4, 3) (List.mem_of_getElem? (i := 25) rfl)),
  List.forall_mem_cons.mpr ⟨sd_iconst 107 178 0 ⟨by decide, by decide⟩ (dk_107_2 (178, .iconst 0, 1) (List.mem_of_getElem? (i := 26) rfl)),
  List.forall_mem_cons.mpr ⟨sd_zret 107 179 rfl (dk_107_2 (179, .ireturn, 1) (List.mem_of_getElem? (i := 27) rfl)),
  fun _ h => nomatch h⟩⟩⟩⟩⟩⟩⟩⟩⟩⟩⟩⟩⟩⟩⟩⟩⟩⟩⟩⟩⟩⟩⟩⟩⟩⟩⟩⟩⟩⟩
def tb_107 : List (List (Nat × Op1)) := [tb_107_0, tb_107_1, tb_107_2]
theorem sm_107 : ∀ t ∈ tb_107, ∀ q ∈ t, SM GwP MdP D A l 107 q.1 q.2 := List.forall_mem_cons.mpr ⟨sm_107_0, List.forall_mem_cons.mpr ⟨sm_107_1, List.forall_mem_cons.mpr ⟨sm_107_2, fun _ h => nomatch h⟩⟩⟩
-- 108: MarginaliaLaw$Page.propose()Z
def dl_108_0 : List (Nat × Instr × Nat) := [(0, .aload_n 0, 1), (1, .invokevirtual 113, 3), (4, .istore_n 1, 1), (5, .iload_n 1, 1), (6, .ifCond .lt 14, 3), (9, .aload_n 0, 1), (10, .getfield 26, 3), (13, .iload_n 1, 1), (14, .aaload, 1), (15, .iconst 2, 1), (16, .iaload, 1), (17, .ifCond .lt 5, 3), (20, .iconst 1, 1), (21, .ireturn, 1), (22, .aload_n 0, 1), (23, .aload_n 0, 1), (24, .getfield 16, 3), (27, .arraylength, 1), (28, .invokevirtual 61, 3), (31, .istore_n 2, 1), (32, .aload_n 0, 1), (33, .bipush 6, 2), (35, .invokevirtual 61, 3), (38, .istore_n 3, 1), (39, .aload_n 0, 1), (40, .bipush 26, 2), (42, .invokevirtual 61, 3), (45, .istore 4, 2), (47, .aload_n 0, 1), (48, .getfield 16, 3), (51, .iload_n 2, 1), (52, .iaload, 1), (53, .iconst 2, 1), (54, .if_icmp .lt 27, 3), (57, .aload_n 0, 1), (58, .iload_n 2, 1), (59, .iload_n 1, 1), (60, .invokevirtual 117, 3), (63, .ifCond .eq 18, 3), (66, .aload_n 0, 1)]
theorem dk_108_0 : ∀ q ∈ dl_108_0, decode (mCod (MdP 108)) q.1 = .ok q.2 := by
  rw [show mCod (MdP 108) = cX6_propose from rfl]
  decide +kernel
def dl_108_1 : List (Nat × Instr × Nat) := [(67, .getfield 26, 3), (70, .iload_n 1, 1), (71, .aaload, 1), (72, .iconst 4, 1), (73, .iaload, 1), (74, .ifCond .ne 7, 3), (77, .iconst 1, 1), (78, .goto 4, 3), (81, .iconst 0, 1), (82, .istore 5, 2), (84, .aload_n 0, 1), (85, .getfield 10, 3), (88, .iload_n 2, 1), (89, .iload_n 1, 1), (90, .iload_n 3, 1), (91, .iload 4, 2), (93, .invokevirtual 133, 3), (96, .istore 6, 2), (98, .iload 5, 2), (100, .ifCond .ne 5, 3), (103, .iconst 0, 1), (104, .ireturn, 1), (105, .aload_n 0, 1), (106, .getfield 26, 3), (109, .iload_n 1, 1), (110, .aaload, 1), (111, .bipush 9, 2), (113, .iload_n 3, 1), (114, .iastore, 1), (115, .aload_n 0, 1), (116, .getfield 26, 3), (119, .iload_n 1, 1), (120, .aaload, 1), (121, .bipush 10, 2), (123, .iload 4, 2), (125, .iastore, 1), (126, .iload 6, 2), (128, .iload_n 1, 1), (129, .if_icmp .ne 7, 3), (132, .iconst 1, 1)]
theorem dk_108_1 : ∀ q ∈ dl_108_1, decode (mCod (MdP 108)) q.1 = .ok q.2 := by
  rw [show mCod (MdP 108) = cX6_propose from rfl]
  decide +kernel
def dl_108_2 : List (Nat × Instr × Nat) := [(133, .goto 4, 3), (136, .iconst 0, 1), (137, .ireturn, 1), (138, .astore 6, 2), (140, .iload 5, 2), (142, .ifCond .ne 7, 3), (145, .iconst 1, 1), (146, .goto 4, 3), (149, .iconst 0, 1), (150, .ireturn, 1)]
theorem dk_108_2 : ∀ q ∈ dl_108_2, decode (mCod (MdP 108)) q.1 = .ok q.2 := by
  rw [show mCod (MdP 108) = cX6_propose from rfl]
  decide +kernel
def tb_108_0 : List (Nat × Op1) := [(0, oLdR 0 1), (1, oCallV 103 0 6 7 []), (4, oStI 1 1), (5, oLdI 1 1), (6, oZlt 20), (9, oLdR 0 1), (10, oGetR 7 6), (13, oLdI 1 1), (14, oALdR 14), (15, oCI 2 1), (16, oALdI 10), (17, oZlt 22), (20, oCI 1 1), (21, oRetZ), (22, oLdR 0 1), (23, oLdR 0 1), (24, oGetR 7 3), (27, oALen 10), (28, oCallV 90 1 3 7 []), (31, oStI 2 1), (32, oLdR 0 1), (33, oCI 6 2), (35, oCallV 90 1 3 7 []), (38, oStI 3 1), (39, oLdR 0 1), (40, oCI 26 2), (42, oCallV 90 1 3 7 []), (45, oStI 4 2), (47, oLdR 0 1), (48, oGetR 7 3), (51, oLdI 2 1), (52, oALdI 10), (53, oCI 2 1), (54, oClt 81), (57, oLdR 0 1), (58, oLdI 2 1), (59, oLdI 1 1), (60, oCallV 101 2 3 7 []), (63, oZeq 81)]
theorem sm_108_0 : ∀ q ∈ tb_108_0, SM GwP MdP D A l 108 q.1 q.2 :=
  List.forall_mem_cons.mpr ⟨sd_oLdR_n 108 0 0 0 rfl (dk_108_0 (0, .aload_n 0, 1) (List.mem_of_getElem? (i := 0) rfl)),
  List.forall_mem_cons.mpr ⟨sd_callV 108 1 103 0 6 113 7 [] (gdV hws_108 hws_103 zw406 zw407 zw408 zw362 zw405) hws_103 rfl (by decide +kernel) rfl rfl ⟨by decide +kernel, by decide +kernel, by decide +kernel⟩ ⟨by decide, by decide⟩ (catch_of (fun _ => by decide +kernel) (fun _ h => nomatch h)) RX6 rfl TX6 8 rfl ⟨by decide, by decide⟩ (dk_108_0 (1, .invokevirtual 113, 3) (List.mem_of_getElem? (i := 1) rfl)),
  List.forall_mem_cons.mpr ⟨sd_oStI_n 108 4 1 1 rfl (by decide) (dk_108_0 (4, .istore_n 1, 1) (List.mem_of_getElem? (i := 2) rfl)),
  List.forall_mem_cons.mpr ⟨sd_oLdI_n 108 5 1 1 rfl (dk_108_0 (5, .iload_n 1, 1) (List.mem_of_getElem? (i := 3) rfl)),
  List.forall_mem_cons.mpr ⟨sd_if_lt 108 6 14 20 (by decide) (dk_108_0 (6, .ifCond .lt 14, 3) (List.mem_of_getElem? (i := 4) rfl)),
  List.forall_mem_cons.mpr ⟨sd_oLdR_n 108 9 0 0 rfl (dk_108_0 (9, .aload_n 0, 1) (List.mem_of_getElem? (i := 5) rfl)),
  List.forall_mem_cons.mpr ⟨sd_oGetR 108 10 7 6 26 RX6 TX6 8 rfl ⟨by decide, by decide⟩ rfl (by decide) rfl (fun w h => iw_108 w (uz_6 w h)) rfl (iw_108 _ zw343) (dk_108_0 (10, .getfield 26, 3) (List.mem_of_getElem? (i := 6) rfl)),
  List.forall_mem_cons.mpr ⟨sd_oLdI_n 108 13 1 1 rfl (dk_108_0 (13, .iload_n 1, 1) (List.mem_of_getElem? (i := 7) rfl)),
  List.forall_mem_cons.mpr ⟨sd_aaldA 108 14 (dk_108_0 (14, .aaload, 1) (List.mem_of_getElem? (i := 8) rfl)),
  List.forall_mem_cons.mpr ⟨sd_iconst 108 15 2 ⟨by decide, by decide⟩ (dk_108_0 (15, .iconst 2, 1) (List.mem_of_getElem? (i := 9) rfl)),
  List.forall_mem_cons.mpr ⟨sd_iald 108 16 (dk_108_0 (16, .iaload, 1) (List.mem_of_getElem? (i := 10) rfl)),
  List.forall_mem_cons.mpr ⟨sd_if_lt 108 17 5 22 (by decide) (dk_108_0 (17, .ifCond .lt 5, 3) (List.mem_of_getElem? (i := 11) rfl)),
  List.forall_mem_cons.mpr ⟨sd_iconst 108 20 1 ⟨by decide, by decide⟩ (dk_108_0 (20, .iconst 1, 1) (List.mem_of_getElem? (i := 12) rfl)),
  List.forall_mem_cons.mpr ⟨sd_zret 108 21 rfl (dk_108_0 (21, .ireturn, 1) (List.mem_of_getElem? (i := 13) rfl)),
  List.forall_mem_cons.mpr ⟨sd_oLdR_n 108 22 0 0 rfl (dk_108_0 (22, .aload_n 0, 1) (List.mem_of_getElem? (i := 14) rfl)),
  List.forall_mem_cons.mpr ⟨sd_oLdR_n 108 23 0 0 rfl (dk_108_0 (23, .aload_n 0, 1) (List.mem_of_getElem? (i := 15) rfl)),
  List.forall_mem_cons.mpr ⟨sd_oGetR 108 24 7 3 16 RX6 TX6 8 rfl ⟨by decide, by decide⟩ rfl (by decide) rfl (fun w h => iw_108 w (uz_6 w h)) rfl (iw_108 _ zw339) (dk_108_0 (24, .getfield 16, 3) (List.mem_of_getElem? (i := 16) rfl)),
  List.forall_mem_cons.mpr ⟨sd_alen 108 27 10 ⟨by decide, by decide⟩ (dk_108_0 (27, .arraylength, 1) (List.mem_of_getElem? (i := 17) rfl)),
  List.forall_mem_cons.mpr ⟨sd_callV 108 28 90 1 3 61 7 [] (gdV hws_108 hws_90 zw359 zw360 zw361 zw362 zw358) hws_90 rfl (by decide +kernel) rfl rfl ⟨by decide +kernel, by decide +kernel, by decide +kernel⟩ ⟨by decide, by decide⟩ (catch_of (fun _ => by decide +kernel) (fun _ h => nomatch h)) RX6 rfl TX6 8 rfl ⟨by decide, by decide⟩ (dk_108_0 (28, .invokevirtual 61, 3) (List.mem_of_getElem? (i := 18) rfl)),
  List.forall_mem_cons.mpr ⟨sd_oStI_n 108 31 2 2 rfl (by decide) (dk_108_0 (31, .istore_n 2, 1) (List.mem_of_getElem? (i := 19) rfl)),
  List.forall_mem_cons.mpr ⟨sd_oLdR_n 108 32 0 0 rfl (dk_108_0 (32, .aload_n 0, 1) (List.mem_of_getElem? (i := 20) rfl)),
  List.forall_mem_cons.mpr ⟨sd_bipush 108 33 6 ⟨by decide, by decide⟩ (by decide) (dk_108_0 (33, .bipush 6, 2) (List.mem_of_getElem? (i := 21) rfl)),
  List.forall_mem_cons.mpr ⟨sd_callV 108 35 90 1 3 61 7 [] (gdV hws_108 hws_90 zw359 zw360 zw361 zw362 zw358) hws_90 rfl (by decide +kernel) rfl rfl ⟨by decide +kernel, by decide +kernel, by decide +kernel⟩ ⟨by decide, by decide⟩ (catch_of (fun _ => by decide +kernel) (fun _ h => nomatch h)) RX6 rfl TX6 8 rfl ⟨by decide, by decide⟩ (dk_108_0 (35, .invokevirtual 61, 3) (List.mem_of_getElem? (i := 22) rfl)),
  List.forall_mem_cons.mpr ⟨sd_oStI_n 108 38 3 3 rfl (by decide) (dk_108_0 (38, .istore_n 3, 1) (List.mem_of_getElem? (i := 23) rfl)),
  List.forall_mem_cons.mpr ⟨sd_oLdR_n 108 39 0 0 rfl (dk_108_0 (39, .aload_n 0, 1) (List.mem_of_getElem? (i := 24) rfl)),
  List.forall_mem_cons.mpr ⟨sd_bipush 108 40 26 ⟨by decide, by decide⟩ (by decide) (dk_108_0 (40, .bipush 26, 2) (List.mem_of_getElem? (i := 25) rfl)),
  List.forall_mem_cons.mpr ⟨sd_callV 108 42 90 1 3 61 7 [] (gdV hws_108 hws_90 zw359 zw360 zw361 zw362 zw358) hws_90 rfl (by decide +kernel) rfl rfl ⟨by decide +kernel, by decide +kernel, by decide +kernel⟩ ⟨by decide, by decide⟩ (catch_of (fun _ => by decide +kernel) (fun _ h => nomatch h)) RX6 rfl TX6 8 rfl ⟨by decide, by decide⟩ (dk_108_0 (42, .invokevirtual 61, 3) (List.mem_of_getElem? (i := 26) rfl)),
  List.forall_mem_cons.mpr ⟨sd_oStI 108 45 4 (by decide) (dk_108_0 (45, .istore 4, 2) (List.mem_of_getElem? (i := 27) rfl)),
  List.forall_mem_cons.mpr ⟨sd_oLdR_n 108 47 0 0 rfl (dk_108_0 (47, .aload_n 0, 1) (List.mem_of_getElem? (i := 28) rfl)),
  List.forall_mem_cons.mpr ⟨sd_oGetR 108 48 7 3 16 RX6 TX6 8 rfl ⟨by decide, by decide⟩ rfl (by decide) rfl (fun w h => iw_108 w (uz_6 w h)) rfl (iw_108 _ zw339) (dk_108_0 (48, .getfield 16, 3) (List.mem_of_getElem? (i := 29) rfl)),
  List.forall_mem_cons.mpr ⟨sd_oLdI_n 108 51 2 2 rfl (dk_108_0 (51, .iload_n 2, 1) (List.mem_of_getElem? (i := 30) rfl)),
  List.forall_mem_cons.mpr ⟨sd_iald 108 52 (dk_108_0 (52, .iaload, 1) (List.mem_of_getElem? (i := 31) rfl)),
  List.forall_mem_cons.mpr ⟨sd_iconst 108 53 2 ⟨by decide, by decide⟩ (dk_108_0 (53, .iconst 2, 1) (List.mem_of_getElem? (i := 32) rfl)),
  List.forall_mem_cons.mpr ⟨sd_icmp_lt 108 54 27 81 (by decide) (dk_108_0 (54, .if_icmp .lt 27, 3) (List.mem_of_getElem? (i := 33) rfl)),
  List.forall_mem_cons.mpr ⟨sd_oLdR_n 108 57 0 0 rfl (dk_108_0 (57, .aload_n 0, 1) (List.mem_of_getElem? (i := 34) rfl)),
  List.forall_mem_cons.mpr ⟨sd_oLdI_n 108 58 2 2 rfl (dk_108_0 (58, .iload_n 2, 1) (List.mem_of_getElem? (i := 35) rfl)),
  List.forall_mem_cons.mpr ⟨sd_oLdI_n 108 59 1 1 rfl (dk_108_0 (59, .iload_n 1, 1) (List.mem_of_getElem? (i := 36) rfl)),
  List.forall_mem_cons.mpr ⟨sd_callV 108 60 101 2 3 117 7 [] (gdV hws_108 hws_101 zw410 zw411 zw412 zw362 zw409) hws_101 rfl (by decide +kernel) rfl rfl ⟨by decide +kernel, by decide +kernel, by decide +kernel⟩ ⟨by decide, by decide⟩ (catch_of (fun _ => by decide +kernel) (fun _ h => nomatch h)) RX6 rfl TX6 8 rfl ⟨by decide, by decide⟩ (dk_108_0 (60, .invokevirtual 117, 3) (List.mem_of_getElem? (i := 37) rfl)),
  List.forall_mem_cons.mpr ⟨sd_if_eq 108 63 18 81 (by decide) (dk_108_0 (63, .ifCond .eq 18, 3) (List.mem_of_getElem? (i := 38) rfl)),
  fun _ h => nomatch h⟩⟩⟩⟩⟩⟩⟩⟩⟩⟩⟩⟩⟩⟩⟩⟩⟩⟩⟩⟩⟩⟩⟩⟩⟩⟩⟩⟩⟩⟩⟩⟩⟩⟩⟩⟩⟩⟩⟩
def tb_108_1 : List (Nat × Op1) := [(66, oLdR 0 1), (67, oGetR 7 6), (70, oLdI 1 1), (71, oALdR 14), (72, oCI 4 1), (73, oALdI 10), (74, oZne 81), (77, oCI 1 1), (78, oGoto 82), (81, oCI 0 1), (82, oStI 5 2), (84, oLdR 0 1), (85, oGetR 7 0), (88, oLdI 2 1), (89, oLdI 1 1), (90, oLdI 3 1), (91, oLdI 4 2), (93, oCallV 44 4 6 6 [(2, 138)]), (96, oStI 6 2), (98, oLdI 5 2), (100, oZne 105), (103, oCI 0 1), (104, oRetZ), (105, oLdR 0 1), (106, oGetR 7 6), (109, oLdI 1 1), (110, oALdR 14), (111, oCI 9 2), (113, oLdI 3 1), (114, oAStI), (115, oLdR 0 1), (116, oGetR 7 6), (119, oLdI 1 1), (120, oALdR 14), (121, oCI 10 2), (123, oLdI 4 2), (125, oAStI), (126, oLdI 6 2)]
theorem sm_108_1 : ∀ q ∈ tb_108_1, SM GwP MdP D A l 108 q.1 q.2 :=
  List.forall_mem_cons.mpr ⟨sd_oLdR_n 108 66 0 0 rfl (dk_108_0 (66, .aload_n 0, 1) (List.mem_of_getElem? (i := 39) rfl)),
  List.forall_mem_cons.mpr ⟨sd_oGetR 108 67 7 6 26 RX6 TX6 8 rfl ⟨by decide, by decide⟩ rfl (by decide) rfl (fun w h => iw_108 w (uz_6 w h)) rfl (iw_108 _ zw343) (dk_108_1 (67, .getfield 26, 3) (List.mem_of_getElem? (i := 0) rfl)),
  List.forall_mem_cons.mpr ⟨sd_oLdI_n 108 70 1 1 rfl (dk_108_1 (70, .iload_n 1, 1) (List.mem_of_getElem? (i := 1) rfl)),
  List.forall_mem_cons.mpr ⟨sd_aaldA 108 71 (dk_108_1 (71, .aaload, 1) (List.mem_of_getElem? (i := 2) rfl)),
  List.forall_mem_cons.mpr ⟨sd_iconst 108 72 4 ⟨by decide, by decide⟩ (dk_108_1 (72, .iconst 4, 1) (List.mem_of_getElem? (i := 3) rfl)),
  List.forall_mem_cons.mpr ⟨sd_iald 108 73 (dk_108_1 (73, .iaload, 1) (List.mem_of_getElem? (i := 4) rfl)),
  List.forall_mem_cons.mpr ⟨sd_if_ne 108 74 7 81 (by decide) (dk_108_1 (74, .ifCond .ne 7, 3) (List.mem_of_getElem? (i := 5) rfl)),
  List.forall_mem_cons.mpr ⟨sd_iconst 108 77 1 ⟨by decide, by decide⟩ (dk_108_1 (77, .iconst 1, 1) (List.mem_of_getElem? (i := 6) rfl)),
  List.forall_mem_cons.mpr ⟨sd_goto 108 78 4 82 (by decide) (dk_108_1 (78, .goto 4, 3) (List.mem_of_getElem? (i := 7) rfl)),
  List.forall_mem_cons.mpr ⟨sd_iconst 108 81 0 ⟨by decide, by decide⟩ (dk_108_1 (81, .iconst 0, 1) (List.mem_of_getElem? (i := 8) rfl)),
  List.forall_mem_cons.mpr ⟨sd_oStI 108 82 5 (by decide) (dk_108_1 (82, .istore 5, 2) (List.mem_of_getElem? (i := 9) rfl)),
  List.forall_mem_cons.mpr ⟨sd_oLdR_n 108 84 0 0 rfl (dk_108_1 (84, .aload_n 0, 1) (List.mem_of_getElem? (i := 10) rfl)),
  List.forall_mem_cons.mpr ⟨sd_oGetR 108 85 7 0 10 RX6 TX6 8 rfl ⟨by decide, by decide⟩ rfl (by decide) rfl (fun w h => iw_108 w (uz_6 w h)) rfl (iw_108 _ zw338) (dk_108_1 (85, .getfield 10, 3) (List.mem_of_getElem? (i := 11) rfl)),
  List.forall_mem_cons.mpr ⟨sd_oLdI_n 108 88 2 2 rfl (dk_108_1 (88, .iload_n 2, 1) (List.mem_of_getElem? (i := 12) rfl)),
  List.forall_mem_cons.mpr ⟨sd_oLdI_n 108 89 1 1 rfl (dk_108_1 (89, .iload_n 1, 1) (List.mem_of_getElem? (i := 13) rfl)),
  List.forall_mem_cons.mpr ⟨sd_oLdI_n 108 90 3 3 rfl (dk_108_1 (90, .iload_n 3, 1) (List.mem_of_getElem? (i := 14) rfl)),
  List.forall_mem_cons.mpr ⟨sd_oLdI 108 91 4 (dk_108_1 (91, .iload 4, 2) (List.mem_of_getElem? (i := 15) rfl)),
  List.forall_mem_cons.mpr ⟨sd_callV 108 93 44 4 6 133 6 [(2, 138)] (gdV hws_108 hws_44 zw430 zw431 zw432 zw63 zw429) hws_44 rfl (by decide +kernel) rfl rfl ⟨by decide +kernel, by decide +kernel, by decide +kernel⟩ ⟨by decide, by decide⟩ (catch_of (fun h => nomatch h) (List.forall_mem_cons.mpr ⟨⟨[], ⟨84, 104, 138, 91⟩, [⟨105, 137, 138, 91⟩], "java/lang/IllegalStateException", rfl, (fun _ h => nomatch h), by decide, by decide, (iw_108 _ zw379), List.mem_of_getElem? (i := 1) rfl, rfl⟩, (fun _ h => nomatch h)⟩)) RX5 rfl TX5 7 rfl ⟨by decide, by decide⟩ (dk_108_1 (93, .invokevirtual 133, 3) (List.mem_of_getElem? (i := 16) rfl)),
  List.forall_mem_cons.mpr ⟨sd_oStI 108 96 6 (by decide) (dk_108_1 (96, .istore 6, 2) (List.mem_of_getElem? (i := 17) rfl)),
  List.forall_mem_cons.mpr ⟨sd_oLdI 108 98 5 (dk_108_1 (98, .iload 5, 2) (List.mem_of_getElem? (i := 18) rfl)),
  List.forall_mem_cons.mpr ⟨sd_if_ne 108 100 5 105 (by decide) (dk_108_1 (100, .ifCond .ne 5, 3) (List.mem_of_getElem? (i := 19) rfl)),
  List.forall_mem_cons.mpr ⟨sd_iconst 108 103 0 ⟨by decide, by decide⟩ (dk_108_1 (103, .iconst 0, 1) (List.mem_of_getElem? (i := 20) rfl)),
  List.forall_mem_cons.mpr ⟨sd_zret 108 104 rfl (dk_108_1 (104, .ireturn, 1) (List.mem_of_getElem? (i := 21) rfl)),
  List.forall_mem_cons.mpr ⟨sd_oLdR_n 108 105 0 0 rfl (dk_108_1 (105, .aload_n 0, 1) (List.mem_of_getElem? (i := 22) rfl)),
  List.forall_mem_cons.mpr ⟨sd_oGetR 108 106 7 6 26 RX6 TX6 8 rfl ⟨by decide, by decide⟩ rfl (by decide) rfl (fun w h => iw_108 w (uz_6 w h)) rfl (iw_108 _ zw343) (dk_108_1 (106, .getfield 26, 3) (List.mem_of_getElem? (i := 23) rfl)),
  List.forall_mem_cons.mpr ⟨sd_oLdI_n 108 109 1 1 rfl (dk_108_1 (109, .iload_n 1, 1) (List.mem_of_getElem? (i := 24) rfl)),
  List.forall_mem_cons.mpr ⟨sd_aaldA 108 110 (dk_108_1 (110, .aaload, 1) (List.mem_of_getElem? (i := 25) rfl)),
  List.forall_mem_cons.mpr ⟨sd_bipush 108 111 9 ⟨by decide, by decide⟩ (by decide) (dk_108_1 (111, .bipush 9, 2) (List.mem_of_getElem? (i := 26) rfl)),
  List.forall_mem_cons.mpr ⟨sd_oLdI_n 108 113 3 3 rfl (dk_108_1 (113, .iload_n 3, 1) (List.mem_of_getElem? (i := 27) rfl)),
  List.forall_mem_cons.mpr ⟨sd_iast 108 114 (dk_108_1 (114, .iastore, 1) (List.mem_of_getElem? (i := 28) rfl)),
  List.forall_mem_cons.mpr ⟨sd_oLdR_n 108 115 0 0 rfl (dk_108_1 (115, .aload_n 0, 1) (List.mem_of_getElem? (i := 29) rfl)),
  List.forall_mem_cons.mpr ⟨sd_oGetR 108 116 7 6 26 RX6 TX6 8 rfl ⟨by decide, by decide⟩ rfl (by decide) rfl (fun w h => iw_108 w (uz_6 w h)) rfl (iw_108 _ zw343) (dk_108_1 (116, .getfield 26, 3) (List.mem_of_getElem? (i := 30) rfl)),
  List.forall_mem_cons.mpr ⟨sd_oLdI_n 108 119 1 1 rfl (dk_108_1 (119, .iload_n 1, 1) (List.mem_of_getElem? (i := 31) rfl)),
  List.forall_mem_cons.mpr ⟨sd_aaldA 108 120 (dk_108_1 (120, .aaload, 1) (List.mem_of_getElem? (i := 32) rfl)),
  List.forall_mem_cons.mpr ⟨sd_bipush 108 121 10 ⟨by decide, by decide⟩ (by decide) (dk_108_1 (121, .bipush 10, 2) (List.mem_of_getElem? (i := 33) rfl)),
  List.forall_mem_cons.mpr ⟨sd_oLdI 108 123 4 (dk_108_1 (123, .iload 4, 2) (List.mem_of_getElem? (i := 34) rfl)),
  List.forall_mem_cons.mpr ⟨sd_iast 108 125 (dk_108_1 (125, .iastore, 1) (List.mem_of_getElem? (i := 35) rfl)),
  List.forall_mem_cons.mpr ⟨sd_oLdI 108 126 6 (dk_108_1 (126, .iload 6, 2) (List.mem_of_getElem? (i := 36) rfl)),
  fun _ h => nomatch h⟩⟩⟩⟩⟩⟩⟩⟩⟩⟩⟩⟩⟩⟩⟩⟩⟩⟩⟩⟩⟩⟩⟩⟩⟩⟩⟩⟩⟩⟩⟩⟩⟩⟩⟩⟩⟩⟩
def tb_108_2 : List (Nat × Op1) := [(128, oLdI 1 1), (129, oCne 136), (132, oCI 1 1), (133, oGoto 137), (136, oCI 0 1), (137, oRetZ), (138, oStR 6 2), (140, oLdI 5 2), (142, oZne 149), (145, oCI 1 1), (146, oGoto 150), (149, oCI 0 1), (150, oRetZ)]
theorem sm_108_2 : ∀ q ∈ tb_108_2, SM GwP MdP D A l 108 q.1 q.2 :=
  List.forall_mem_cons.mpr ⟨sd_oLdI_n 108 128 1 1 rfl (dk_108_1 (128, .iload_n 1, 1) (List.mem_of_getElem? (i := 37) rfl)),
  List.forall_mem_cons.mpr ⟨sd_icmp_ne 108 129 7 136 (by decide) (dk_108_1 (129, .if_icmp .ne 7, 3) (List.mem_of_getElem? (i := 38) rfl)),
  List.forall_mem_cons.mpr ⟨sd_iconst 108 132 1 ⟨by decide, by decide⟩ (dk_108_1 (132, .iconst 1, 1) (List.mem_of_getElem? (i := 39) rfl)),
  List.forall_mem_cons.mpr ⟨sd_goto 108 133 4 137 (by decide) (dk_108_2 (133, .goto 4, 3) (List.mem_of_getElem? (i := 0) rfl)),
  List.forall_mem_cons.mpr ⟨sd_iconst 108 136 0 ⟨by decide, by decide⟩ (dk_108_2 (136, .iconst 0, 1) (List.mem_of_getElem? (i := 1) rfl)),
  List.forall_mem_cons.mpr ⟨sd_zret 108 137 rfl (dk_108_2 (137, .ireturn, 1) (List.mem_of_getElem? (i := 2) rfl)),
  List.forall_mem_cons.mpr ⟨sd_oStR 108 138 6 (by decide) (dk_108_2 (138, .astore 6, 2) (List.mem_of_getElem? (i := 3) rfl)),
  List.forall_mem_cons.mpr ⟨sd_oLdI 108 140 5 (dk_108_2 (140, .iload 5, 2) (List.mem_of_getElem? (i := 4) rfl)),
  List.forall_mem_cons.mpr ⟨sd_if_ne 108 142 7 149 (by decide) (dk_108_2 (142, .ifCond .ne 7, 3) (List.mem_of_getElem? (i := 5) rfl)),
  List.forall_mem_cons.mpr ⟨sd_iconst 108 145 1 ⟨by decide, by decide⟩ (dk_108_2 (145, .iconst 1, 1) (List.mem_of_getElem? (i := 6) rfl)),
  List.forall_mem_cons.mpr ⟨sd_goto 108 146 4 150 (by decide) (dk_108_2 (146, .goto 4, 3) (List.mem_of_getElem? (i := 7) rfl)),
  List.forall_mem_cons.mpr ⟨sd_iconst 108 149 0 ⟨by decide, by decide⟩ (dk_108_2 (149, .iconst 0, 1) (List.mem_of_getElem? (i := 8) rfl)),
  List.forall_mem_cons.mpr ⟨sd_zret 108 150 rfl (dk_108_2 (150, .ireturn, 1) (List.mem_of_getElem? (i := 9) rfl)),
  fun _ h => nomatch h⟩⟩⟩⟩⟩⟩⟩⟩⟩⟩⟩⟩⟩
def tb_108 : List (List (Nat × Op1)) := [tb_108_0, tb_108_1, tb_108_2]
theorem sm_108 : ∀ t ∈ tb_108, ∀ q ∈ t, SM GwP MdP D A l 108 q.1 q.2 := List.forall_mem_cons.mpr ⟨sm_108_0, List.forall_mem_cons.mpr ⟨sm_108_1, List.forall_mem_cons.mpr ⟨sm_108_2, fun _ h => nomatch h⟩⟩⟩
-- 109: MarginaliaLaw$Page.take()Z
def dl_109_0 : List (Nat × Instr × Nat) := [(0, .aload_n 0, 1), (1, .invokevirtual 113, 3), (4, .istore_n 1, 1), (5, .iload_n 1, 1), (6, .ifCond .lt 14, 3), (9, .aload_n 0, 1), (10, .getfield 26, 3), (13, .iload_n 1, 1), (14, .aaload, 1), (15, .iconst 2, 1), (16, .iaload, 1), (17, .ifCond .lt 5, 3), (20, .iconst 1, 1), (21, .ireturn, 1), (22, .aload_n 0, 1), (23, .aload_n 0, 1), (24, .getfield 16, 3), (27, .arraylength, 1), (28, .invokevirtual 61, 3), (31, .istore_n 2, 1), (32, .aload_n 0, 1), (33, .getfield 26, 3), (36, .iload_n 1, 1), (37, .aaload, 1), (38, .astore_n 3, 1), (39, .aload_n 3, 1), (40, .bipush 6, 2), (42, .iaload, 1), (43, .aload_n 3, 1), (44, .iconst 5, 1), (45, .iaload, 1), (46, .isub, 1), (47, .istore 4, 2), (49, .aload_n 0, 1), (50, .getfield 16, 3), (53, .iload_n 2, 1), (54, .iaload, 1), (55, .iconst 3, 1), (56, .if_icmp .lt 70, 3), (59, .aload_n 0, 1)]
theorem dk_109_0 : ∀ q ∈ dl_109_0, decode (mCod (MdP 109)) q.1 = .ok q.2 := by
  rw [show mCod (MdP 109) = cX6_take from rfl]
  decide +kernel
def dl_109_1 : List (Nat × Instr × Nat) := [(60, .iload_n 2, 1), (61, .iload_n 1, 1), (62, .invokevirtual 117, 3), (65, .ifCond .eq 61, 3), (68, .aload_n 3, 1), (69, .bipush 9, 2), (71, .iaload, 1), (72, .ifCond .lt 54, 3), (75, .iload 4, 2), (77, .ifCond .le 49, 3), (80, .aload_n 0, 1), (81, .invokevirtual 68, 3), (84, .arraylength, 1), (85, .iload 4, 2), (87, .isub, 1), (88, .aload_n 3, 1), (89, .bipush 9, 2), (91, .iaload, 1), (92, .iadd, 1), (93, .sipush 200, 3), (96, .if_icmp .gt 30, 3), (99, .aload_n 0, 1), (100, .getfield 22, 3), (103, .arraylength, 1), (104, .aload_n 3, 1), (105, .bipush 9, 2), (107, .iaload, 1), (108, .ifCond .le 7, 3), (111, .iconst 1, 1), (112, .goto 4, 3), (115, .iconst 0, 1), (116, .iadd, 1), (117, .bipush 60, 2), (119, .if_icmp .gt 7, 3), (122, .iconst 1, 1), (123, .goto 4, 3), (126, .iconst 0, 1), (127, .istore 5, 2), (129, .aload_n 0, 1), (130, .getfield 10, 3)]
theorem dk_109_1 : ∀ q ∈ dl_109_1, decode (mCod (MdP 109)) q.1 = .ok q.2 := by
  rw [show mCod (MdP 109) = cX6_take from rfl]
  decide +kernel
def dl_109_2 : List (Nat × Instr × Nat) := [(133, .iload_n 2, 1), (134, .iload_n 1, 1), (135, .invokevirtual 136, 3), (138, .istore 6, 2), (140, .iload 5, 2), (142, .ifCond .ne 5, 3), (145, .iconst 0, 1), (146, .ireturn, 1), (147, .aload_n 3, 1), (148, .iconst 5, 1), (149, .iaload, 1), (150, .istore 7, 2), (152, .aload_n 0, 1), (153, .iload 7, 2), (155, .iload 4, 2), (157, .invokevirtual 101, 3), (160, .aload_n 3, 1), (161, .bipush 9, 2), (163, .iaload, 1), (164, .ifCond .le 17, 3), (167, .aload_n 0, 1), (168, .iload 7, 2), (170, .aload_n 3, 1), (171, .bipush 9, 2), (173, .iaload, 1), (174, .aload_n 3, 1), (175, .bipush 10, 2), (177, .iaload, 1), (178, .invokevirtual 87, 3), (181, .aload_n 3, 1), (182, .iconst 5, 1), (183, .iload 7, 2), (185, .iastore, 1), (186, .aload_n 3, 1), (187, .bipush 6, 2), (189, .iload 7, 2), (191, .aload_n 3, 1), (192, .bipush 9, 2), (194, .iaload, 1), (195, .iadd, 1)]
theorem dk_109_2 : ∀ q ∈ dl_109_2, decode (mCod (MdP 109)) q.1 = .ok q.2 := by
  rw [show mCod (MdP 109) = cX6_take from rfl]
  decide +kernel
def dl_109_3 : List (Nat × Instr × Nat) := [(196, .iastore, 1), (197, .aload_n 3, 1), (198, .bipush 8, 2), (200, .iconst 1, 1), (201, .iastore, 1), (202, .aload_n 3, 1), (203, .bipush 9, 2), (205, .iconst (-1), 1), (206, .iastore, 1), (207, .iload 6, 2), (209, .aload_n 0, 1), (210, .invokevirtual 68, 3), (213, .arraylength, 1), (214, .if_icmp .ne 7, 3), (217, .iconst 1, 1), (218, .goto 4, 3), (221, .iconst 0, 1), (222, .ireturn, 1), (223, .astore 6, 2), (225, .iload 5, 2), (227, .ifCond .ne 7, 3), (230, .iconst 1, 1), (231, .goto 4, 3), (234, .iconst 0, 1), (235, .ireturn, 1)]
theorem dk_109_3 : ∀ q ∈ dl_109_3, decode (mCod (MdP 109)) q.1 = .ok q.2 := by
  rw [show mCod (MdP 109) = cX6_take from rfl]
  decide +kernel
def tb_109_0 : List (Nat × Op1) := [(0, oLdR 0 1), (1, oCallV 103 0 6 7 []), (4, oStI 1 1), (5, oLdI 1 1), (6, oZlt 20), (9, oLdR 0 1), (10, oGetR 7 6), (13, oLdI 1 1), (14, oALdR 14), (15, oCI 2 1), (16, oALdI 10), (17, oZlt 22), (20, oCI 1 1), (21, oRetZ), (22, oLdR 0 1), (23, oLdR 0 1), (24, oGetR 7 3), (27, oALen 10), (28, oCallV 90 1 3 7 []), (31, oStI 2 1), (32, oLdR 0 1), (33, oGetR 7 6), (36, oLdI 1 1), (37, oALdR 14), (38, oStR 3 1), (39, oLdR 3 1), (40, oCI 6 2), (42, oALdI 10), (43, oLdR 3 1), (44, oCI 5 1), (45, oALdI 10), (46, oSub), (47, oStI 4 2), (49, oLdR 0 1), (50, oGetR 7 3), (53, oLdI 2 1), (54, oALdI 10), (55, oCI 3 1), (56, oClt 126), (59, oLdR 0 1), (60, oLdI 2 1), (61, oLdI 1 1), (62, oCallV 101 2 3 7 [])]
theorem sm_109_0 : ∀ q ∈ tb_109_0, SM GwP MdP D A l 109 q.1 q.2 :=
  List.forall_mem_cons.mpr ⟨sd_oLdR_n 109 0 0 0 rfl (dk_109_0 (0, .aload_n 0, 1) (List.mem_of_getElem? (i := 0) rfl)),
  List.forall_mem_cons.mpr ⟨sd_callV 109 1 103 0 6 113 7 [] (gdV hws_109 hws_103 zw406 zw407 zw408 zw362 zw405) hws_103 rfl (by decide +kernel) rfl rfl ⟨by decide +kernel, by decide +kernel, by decide +kernel⟩ ⟨by decide, by decide⟩ (catch_of (fun _ => by decide +kernel) (fun _ h => nomatch h)) RX6 rfl TX6 8 rfl ⟨by decide, by decide⟩ (dk_109_0 (1, .invokevirtual 113, 3) (List.mem_of_getElem? (i := 1) rfl)),
  List.forall_mem_cons.mpr ⟨sd_oStI_n 109 4 1 1 rfl (by decide) (dk_109_0 (4, .istore_n 1, 1) (List.mem_of_getElem? (i := 2) rfl)),
  List.forall_mem_cons.mpr ⟨sd_oLdI_n 109 5 1 1 rfl (dk_109_0 (5, .iload_n 1, 1) (List.mem_of_getElem? (i := 3) rfl)),
  List.forall_mem_cons.mpr ⟨sd_if_lt 109 6 14 20 (by decide) (dk_109_0 (6, .ifCond .lt 14, 3) (List.mem_of_getElem? (i := 4) rfl)),
  List.forall_mem_cons.mpr ⟨sd_oLdR_n 109 9 0 0 rfl (dk_109_0 (9, .aload_n 0, 1) (List.mem_of_getElem? (i := 5) rfl)),
  List.forall_mem_cons.mpr ⟨sd_oGetR 109 10 7 6 26 RX6 TX6 8 rfl ⟨by decide, by decide⟩ rfl (by decide) rfl (fun w h => iw_109 w (uz_6 w h)) rfl (iw_109 _ zw343) (dk_109_0 (10, .getfield 26, 3) (List.mem_of_getElem? (i := 6) rfl)),
  List.forall_mem_cons.mpr ⟨sd_oLdI_n 109 13 1 1 rfl (dk_109_0 (13, .iload_n 1, 1) (List.mem_of_getElem? (i := 7) rfl)),
  List.forall_mem_cons.mpr ⟨sd_aaldA 109 14 (dk_109_0 (14, .aaload, 1) (List.mem_of_getElem? (i := 8) rfl)),
  List.forall_mem_cons.mpr ⟨sd_iconst 109 15 2 ⟨by decide, by decide⟩ (dk_109_0 (15, .iconst 2, 1) (List.mem_of_getElem? (i := 9) rfl)),
  List.forall_mem_cons.mpr ⟨sd_iald 109 16 (dk_109_0 (16, .iaload, 1) (List.mem_of_getElem? (i := 10) rfl)),
  List.forall_mem_cons.mpr ⟨sd_if_lt 109 17 5 22 (by decide) (dk_109_0 (17, .ifCond .lt 5, 3) (List.mem_of_getElem? (i := 11) rfl)),
  List.forall_mem_cons.mpr ⟨sd_iconst 109 20 1 ⟨by decide, by decide⟩ (dk_109_0 (20, .iconst 1, 1) (List.mem_of_getElem? (i := 12) rfl)),
  List.forall_mem_cons.mpr ⟨sd_zret 109 21 rfl (dk_109_0 (21, .ireturn, 1) (List.mem_of_getElem? (i := 13) rfl)),
  List.forall_mem_cons.mpr ⟨sd_oLdR_n 109 22 0 0 rfl (dk_109_0 (22, .aload_n 0, 1) (List.mem_of_getElem? (i := 14) rfl)),
  List.forall_mem_cons.mpr ⟨sd_oLdR_n 109 23 0 0 rfl (dk_109_0 (23, .aload_n 0, 1) (List.mem_of_getElem? (i := 15) rfl)),
  List.forall_mem_cons.mpr ⟨sd_oGetR 109 24 7 3 16 RX6 TX6 8 rfl ⟨by decide, by decide⟩ rfl (by decide) rfl (fun w h => iw_109 w (uz_6 w h)) rfl (iw_109 _ zw339) (dk_109_0 (24, .getfield 16, 3) (List.mem_of_getElem? (i := 16) rfl)),
  List.forall_mem_cons.mpr ⟨sd_alen 109 27 10 ⟨by decide, by decide⟩ (dk_109_0 (27, .arraylength, 1) (List.mem_of_getElem? (i := 17) rfl)),
  List.forall_mem_cons.mpr ⟨sd_callV 109 28 90 1 3 61 7 [] (gdV hws_109 hws_90 zw359 zw360 zw361 zw362 zw358) hws_90 rfl (by decide +kernel) rfl rfl ⟨by decide +kernel, by decide +kernel, by decide +kernel⟩ ⟨by decide, by decide⟩ (catch_of (fun _ => by decide +kernel) (fun _ h => nomatch h)) RX6 rfl TX6 8 rfl ⟨by decide, by decide⟩ (dk_109_0 (28, .invokevirtual 61, 3) (List.mem_of_getElem? (i := 18) rfl)),
  List.forall_mem_cons.mpr ⟨sd_oStI_n 109 31 2 2 rfl (by decide) (dk_109_0 (31, .istore_n 2, 1) (List.mem_of_getElem? (i := 19) rfl)),
  List.forall_mem_cons.mpr ⟨sd_oLdR_n 109 32 0 0 rfl (dk_109_0 (32, .aload_n 0, 1) (List.mem_of_getElem? (i := 20) rfl)),
  List.forall_mem_cons.mpr ⟨sd_oGetR 109 33 7 6 26 RX6 TX6 8 rfl ⟨by decide, by decide⟩ rfl (by decide) rfl (fun w h => iw_109 w (uz_6 w h)) rfl (iw_109 _ zw343) (dk_109_0 (33, .getfield 26, 3) (List.mem_of_getElem? (i := 21) rfl)),
  List.forall_mem_cons.mpr ⟨sd_oLdI_n 109 36 1 1 rfl (dk_109_0 (36, .iload_n 1, 1) (List.mem_of_getElem? (i := 22) rfl)),
  List.forall_mem_cons.mpr ⟨sd_aaldA 109 37 (dk_109_0 (37, .aaload, 1) (List.mem_of_getElem? (i := 23) rfl)),
  List.forall_mem_cons.mpr ⟨sd_oStR_n 109 38 3 3 rfl (by decide) (dk_109_0 (38, .astore_n 3, 1) (List.mem_of_getElem? (i := 24) rfl)),
  List.forall_mem_cons.mpr ⟨sd_oLdR_n 109 39 3 3 rfl (dk_109_0 (39, .aload_n 3, 1) (List.mem_of_getElem? (i := 25) rfl)),
  List.forall_mem_cons.mpr ⟨sd_bipush 109 40 6 ⟨by decide, by decide⟩ (by decide) (dk_109_0 (40, .bipush 6, 2) (List.mem_of_getElem? (i := 26) rfl)),
  List.forall_mem_cons.mpr ⟨sd_iald 109 42 (dk_109_0 (42, .iaload, 1) (List.mem_of_getElem? (i := 27) rfl)),
  List.forall_mem_cons.mpr ⟨sd_oLdR_n 109 43 3 3 rfl (dk_109_0 (43, .aload_n 3, 1) (List.mem_of_getElem? (i := 28) rfl)),
  List.forall_mem_cons.mpr ⟨sd_iconst 109 44 5 ⟨by decide, by decide⟩ (dk_109_0 (44, .iconst 5, 1) (List.mem_of_getElem? (i := 29) rfl)),
  List.forall_mem_cons.mpr ⟨sd_iald 109 45 (dk_109_0 (45, .iaload, 1) (List.mem_of_getElem? (i := 30) rfl)),
  List.forall_mem_cons.mpr ⟨sd_isub 109 46 (dk_109_0 (46, .isub, 1) (List.mem_of_getElem? (i := 31) rfl)),
  List.forall_mem_cons.mpr ⟨sd_oStI 109 47 4 (by decide) (dk_109_0 (47, .istore 4, 2) (List.mem_of_getElem? (i := 32) rfl)),
  List.forall_mem_cons.mpr ⟨sd_oLdR_n 109 49 0 0 rfl (dk_109_0 (49, .aload_n 0, 1) (List.mem_of_getElem? (i := 33) rfl)),
  List.forall_mem_cons.mpr ⟨sd_oGetR 109 50 7 3 16 RX6 TX6 8 rfl ⟨by decide, by decide⟩ rfl (by decide) rfl (fun w h => iw_109 w (uz_6 w h)) rfl (iw_109 _ zw339) (dk_109_0 (50, .getfield 16, 3) (List.mem_of_getElem? (i := 34) rfl)),
  List.forall_mem_cons.mpr ⟨sd_oLdI_n 109 53 2 2 rfl (dk_109_0 (53, .iload_n 2, 1) (List.mem_of_getElem? (i := 35) rfl)),
  List.forall_mem_cons.mpr ⟨sd_iald 109 54 (dk_109_0 (54, .iaload, 1) (List.mem_of_getElem? (i := 36) rfl)),
  List.forall_mem_cons.mpr ⟨sd_iconst 109 55 3 ⟨by decide, by decide⟩ (dk_109_0 (55, .iconst 3, 1) (List.mem_of_getElem? (i := 37) rfl)),
  List.forall_mem_cons.mpr ⟨sd_icmp_lt 109 56 70 126 (by decide) (dk_109_0 (56, .if_icmp .lt 70, 3) (List.mem_of_getElem? (i := 38) rfl)),
  List.forall_mem_cons.mpr ⟨sd_oLdR_n 109 59 0 0 rfl (dk_109_0 (59, .aload_n 0, 1) (List.mem_of_getElem? (i := 39) rfl)),
  List.forall_mem_cons.mpr ⟨sd_oLdI_n 109 60 2 2 rfl (dk_109_1 (60, .iload_n 2, 1) (List.mem_of_getElem? (i := 0) rfl)),
  List.forall_mem_cons.mpr ⟨sd_oLdI_n 109 61 1 1 rfl (dk_109_1 (61, .iload_n 1, 1) (List.mem_of_getElem? (i := 1) rfl)),
  List.forall_mem_cons.mpr ⟨sd_callV 109 62 101 2 3 117 7 [] (gdV hws_109 hws_101 zw410 zw411 zw412 zw362 zw409) hws_101 rfl (by decide +kernel) rfl rfl ⟨by decide +kernel, by decide +kernel, by decide +kernel⟩ ⟨by decide, by decide⟩ (catch_of (fun _ => by decide +kernel) (fun _ h => nomatch h)) RX6 rfl TX6 8 rfl ⟨by decide, by decide⟩ (dk_109_1 (62, .invokevirtual 117, 3) (List.mem_of_getElem? (i := 2) rfl)),
  fun _ h => nomatch h⟩⟩⟩⟩⟩⟩⟩⟩⟩⟩⟩⟩⟩⟩⟩⟩⟩⟩⟩⟩⟩⟩⟩⟩⟩⟩⟩⟩⟩⟩⟩⟩⟩⟩⟩⟩⟩⟩⟩⟩⟩⟩⟩
def tb_109_1 : List (Nat × Op1) := [(65, oZeq 126), (68, oLdR 3 1), (69, oCI 9 2), (71, oALdI 10), (72, oZlt 126), (75, oLdI 4 2), (77, oZle 126), (80, oLdR 0 1), (81, oCallV 92 0 1 7 []), (84, oALen 14), (85, oLdI 4 2), (87, oSub), (88, oLdR 3 1), (89, oCI 9 2), (91, oALdI 10), (92, oAdd), (93, oCI 200 3), (96, oCgt 126), (99, oLdR 0 1), (100, oGetR 7 5), (103, oALen 16), (104, oLdR 3 1), (105, oCI 9 2), (107, oALdI 10), (108, oZle 115), (111, oCI 1 1), (112, oGoto 116), (115, oCI 0 1), (116, oAdd), (117, oCI 60 2), (119, oCgt 126), (122, oCI 1 1), (123, oGoto 127), (126, oCI 0 1), (127, oStI 5 2)]
theorem sm_109_1 : ∀ q ∈ tb_109_1, SM GwP MdP D A l 109 q.1 q.2 :=
  List.forall_mem_cons.mpr ⟨sd_if_eq 109 65 61 126 (by decide) (dk_109_1 (65, .ifCond .eq 61, 3) (List.mem_of_getElem? (i := 3) rfl)),
  List.forall_mem_cons.mpr ⟨sd_oLdR_n 109 68 3 3 rfl (dk_109_1 (68, .aload_n 3, 1) (List.mem_of_getElem? (i := 4) rfl)),
  List.forall_mem_cons.mpr ⟨sd_bipush 109 69 9 ⟨by decide, by decide⟩ (by decide) (dk_109_1 (69, .bipush 9, 2) (List.mem_of_getElem? (i := 5) rfl)),
  List.forall_mem_cons.mpr ⟨sd_iald 109 71 (dk_109_1 (71, .iaload, 1) (List.mem_of_getElem? (i := 6) rfl)),
  List.forall_mem_cons.mpr ⟨sd_if_lt 109 72 54 126 (by decide) (dk_109_1 (72, .ifCond .lt 54, 3) (List.mem_of_getElem? (i := 7) rfl)),
  List.forall_mem_cons.mpr ⟨sd_oLdI 109 75 4 (dk_109_1 (75, .iload 4, 2) (List.mem_of_getElem? (i := 8) rfl)),
  List.forall_mem_cons.mpr ⟨sd_if_le 109 77 49 126 (by decide) (dk_109_1 (77, .ifCond .le 49, 3) (List.mem_of_getElem? (i := 9) rfl)),
  List.forall_mem_cons.mpr ⟨sd_oLdR_n 109 80 0 0 rfl (dk_109_1 (80, .aload_n 0, 1) (List.mem_of_getElem? (i := 10) rfl)),
  List.forall_mem_cons.mpr ⟨sd_callV 109 81 92 0 1 68 7 [] (gdV hws_109 hws_92 zw368 zw369 zw370 zw362 zw367) hws_92 rfl (by decide +kernel) rfl rfl ⟨by decide +kernel, by decide +kernel, by decide +kernel⟩ ⟨by decide, by decide⟩ (catch_of (fun _ => by decide +kernel) (fun _ h => nomatch h)) RX6 rfl TX6 8 rfl ⟨by decide, by decide⟩ (dk_109_1 (81, .invokevirtual 68, 3) (List.mem_of_getElem? (i := 11) rfl)),
  List.forall_mem_cons.mpr ⟨sd_alen 109 84 14 ⟨by decide, by decide⟩ (dk_109_1 (84, .arraylength, 1) (List.mem_of_getElem? (i := 12) rfl)),
  List.forall_mem_cons.mpr ⟨sd_oLdI 109 85 4 (dk_109_1 (85, .iload 4, 2) (List.mem_of_getElem? (i := 13) rfl)),
  List.forall_mem_cons.mpr ⟨sd_isub 109 87 (dk_109_1 (87, .isub, 1) (List.mem_of_getElem? (i := 14) rfl)),
  List.forall_mem_cons.mpr ⟨sd_oLdR_n 109 88 3 3 rfl (dk_109_1 (88, .aload_n 3, 1) (List.mem_of_getElem? (i := 15) rfl)),
  List.forall_mem_cons.mpr ⟨sd_bipush 109 89 9 ⟨by decide, by decide⟩ (by decide) (dk_109_1 (89, .bipush 9, 2) (List.mem_of_getElem? (i := 16) rfl)),
  List.forall_mem_cons.mpr ⟨sd_iald 109 91 (dk_109_1 (91, .iaload, 1) (List.mem_of_getElem? (i := 17) rfl)),
  List.forall_mem_cons.mpr ⟨sd_iadd 109 92 (dk_109_1 (92, .iadd, 1) (List.mem_of_getElem? (i := 18) rfl)),
  List.forall_mem_cons.mpr ⟨sd_sipush 109 93 200 ⟨by decide, by decide⟩ (by decide) (dk_109_1 (93, .sipush 200, 3) (List.mem_of_getElem? (i := 19) rfl)),
  List.forall_mem_cons.mpr ⟨sd_icmp_gt 109 96 30 126 (by decide) (dk_109_1 (96, .if_icmp .gt 30, 3) (List.mem_of_getElem? (i := 20) rfl)),
  List.forall_mem_cons.mpr ⟨sd_oLdR_n 109 99 0 0 rfl (dk_109_1 (99, .aload_n 0, 1) (List.mem_of_getElem? (i := 21) rfl)),
  List.forall_mem_cons.mpr ⟨sd_oGetR 109 100 7 5 22 RX6 TX6 8 rfl ⟨by decide, by decide⟩ rfl (by decide) rfl (fun w h => iw_109 w (uz_6 w h)) rfl (iw_109 _ zw341) (dk_109_1 (100, .getfield 22, 3) (List.mem_of_getElem? (i := 22) rfl)),
  List.forall_mem_cons.mpr ⟨sd_alen 109 103 16 ⟨by decide, by decide⟩ (dk_109_1 (103, .arraylength, 1) (List.mem_of_getElem? (i := 23) rfl)),
  List.forall_mem_cons.mpr ⟨sd_oLdR_n 109 104 3 3 rfl (dk_109_1 (104, .aload_n 3, 1) (List.mem_of_getElem? (i := 24) rfl)),
  List.forall_mem_cons.mpr ⟨sd_bipush 109 105 9 ⟨by decide, by decide⟩ (by decide) (dk_109_1 (105, .bipush 9, 2) (List.mem_of_getElem? (i := 25) rfl)),
  List.forall_mem_cons.mpr ⟨sd_iald 109 107 (dk_109_1 (107, .iaload, 1) (List.mem_of_getElem? (i := 26) rfl)),
  List.forall_mem_cons.mpr ⟨sd_if_le 109 108 7 115 (by decide) (dk_109_1 (108, .ifCond .le 7, 3) (List.mem_of_getElem? (i := 27) rfl)),
  List.forall_mem_cons.mpr ⟨sd_iconst 109 111 1 ⟨by decide, by decide⟩ (dk_109_1 (111, .iconst 1, 1) (List.mem_of_getElem? (i := 28) rfl)),
  List.forall_mem_cons.mpr ⟨sd_goto 109 112 4 116 (by decide) (dk_109_1 (112, .goto 4, 3) (List.mem_of_getElem? (i := 29) rfl)),
  List.forall_mem_cons.mpr ⟨sd_iconst 109 115 0 ⟨by decide, by decide⟩ (dk_109_1 (115, .iconst 0, 1) (List.mem_of_getElem? (i := 30) rfl)),
  List.forall_mem_cons.mpr ⟨sd_iadd 109 116 (dk_109_1 (116, .iadd, 1) (List.mem_of_getElem? (i := 31) rfl)),
  List.forall_mem_cons.mpr ⟨sd_bipush 109 117 60 ⟨by decide, by decide⟩ (by decide) (dk_109_1 (117, .bipush 60, 2) (List.mem_of_getElem? (i := 32) rfl)),
  List.forall_mem_cons.mpr ⟨sd_icmp_gt 109 119 7 126 (by decide) (dk_109_1 (119, .if_icmp .gt 7, 3) (List.mem_of_getElem? (i := 33) rfl)),
  List.forall_mem_cons.mpr ⟨sd_iconst 109 122 1 ⟨by decide, by decide⟩ (dk_109_1 (122, .iconst 1, 1) (List.mem_of_getElem? (i := 34) rfl)),
  List.forall_mem_cons.mpr ⟨sd_goto 109 123 4 127 (by decide) (dk_109_1 (123, .goto 4, 3) (List.mem_of_getElem? (i := 35) rfl)),
  List.forall_mem_cons.mpr ⟨sd_iconst 109 126 0 ⟨by decide, by decide⟩ (dk_109_1 (126, .iconst 0, 1) (List.mem_of_getElem? (i := 36) rfl)),
  List.forall_mem_cons.mpr ⟨sd_oStI 109 127 5 (by decide) (dk_109_1 (127, .istore 5, 2) (List.mem_of_getElem? (i := 37) rfl)),
  fun _ h => nomatch h⟩⟩⟩⟩⟩⟩⟩⟩⟩⟩⟩⟩⟩⟩⟩⟩⟩⟩⟩⟩⟩⟩⟩⟩⟩⟩⟩⟩⟩⟩⟩⟩⟩⟩⟩
def tb_109_2 : List (Nat × Op1) := [(129, oLdR 0 1), (130, oGetR 7 0), (133, oLdI 2 1), (134, oLdI 1 1), (135, oCallV 45 2 4 6 [(2, 223)]), (138, oStI 6 2), (140, oLdI 5 2), (142, oZne 147), (145, oCI 0 1), (146, oRetZ), (147, oLdR 3 1), (148, oCI 5 1), (149, oALdI 10), (150, oStI 7 2), (152, oLdR 0 1), (153, oLdI 7 2), (155, oLdI 4 2), (157, oCallV 97 2 10 7 [(2, 223)]), (160, oLdR 3 1), (161, oCI 9 2), (163, oALdI 10), (164, oZle 181), (167, oLdR 0 1), (168, oLdI 7 2), (170, oLdR 3 1), (171, oCI 9 2), (173, oALdI 10), (174, oLdR 3 1), (175, oCI 10 2), (177, oALdI 10), (178, oCallV 96 3 9 7 [(2, 223)]), (181, oLdR 3 1), (182, oCI 5 1), (183, oLdI 7 2), (185, oAStI), (186, oLdR 3 1), (187, oCI 6 2), (189, oLdI 7 2), (191, oLdR 3 1)]
theorem sm_109_2 : ∀ q ∈ tb_109_2, SM GwP MdP D A l 109 q.1 q.2 :=
  List.forall_mem_cons.mpr ⟨sd_oLdR_n 109 129 0 0 rfl (dk_109_1 (129, .aload_n 0, 1) (List.mem_of_getElem? (i := 38) rfl)),
  List.forall_mem_cons.mpr ⟨sd_oGetR 109 130 7 0 10 RX6 TX6 8 rfl ⟨by decide, by decide⟩ rfl (by decide) rfl (fun w h => iw_109 w (uz_6 w h)) rfl (iw_109 _ zw338) (dk_109_1 (130, .getfield 10, 3) (List.mem_of_getElem? (i := 39) rfl)),
  List.forall_mem_cons.mpr ⟨sd_oLdI_n 109 133 2 2 rfl (dk_109_2 (133, .iload_n 2, 1) (List.mem_of_getElem? (i := 0) rfl)),
  List.forall_mem_cons.mpr ⟨sd_oLdI_n 109 134 1 1 rfl (dk_109_2 (134, .iload_n 1, 1) (List.mem_of_getElem? (i := 1) rfl)),
  List.forall_mem_cons.mpr ⟨sd_callV 109 135 45 2 4 136 6 [(2, 223)] (gdV hws_109 hws_45 zw434 zw435 zw436 zw63 zw433) hws_45 rfl (by decide +kernel) rfl rfl ⟨by decide +kernel, by decide +kernel, by decide +kernel⟩ ⟨by decide, by decide⟩ (catch_of (fun h => nomatch h) (List.forall_mem_cons.mpr ⟨⟨[], ⟨129, 146, 223, 91⟩, [⟨147, 222, 223, 91⟩], "java/lang/IllegalStateException", rfl, (fun _ h => nomatch h), by decide, by decide, (iw_109 _ zw379), List.mem_of_getElem? (i := 1) rfl, rfl⟩, (fun _ h => nomatch h)⟩)) RX5 rfl TX5 7 rfl ⟨by decide, by decide⟩ (dk_109_2 (135, .invokevirtual 136, 3) (List.mem_of_getElem? (i := 2) rfl)),
  List.forall_mem_cons.mpr ⟨sd_oStI 109 138 6 (by decide) (dk_109_2 (138, .istore 6, 2) (List.mem_of_getElem? (i := 3) rfl)),
  List.forall_mem_cons.mpr ⟨sd_oLdI 109 140 5 (dk_109_2 (140, .iload 5, 2) (List.mem_of_getElem? (i := 4) rfl)),
  List.forall_mem_cons.mpr ⟨sd_if_ne 109 142 5 147 (by decide) (dk_109_2 (142, .ifCond .ne 5, 3) (List.mem_of_getElem? (i := 5) rfl)),
  List.forall_mem_cons.mpr ⟨sd_iconst 109 145 0 ⟨by decide, by decide⟩ (dk_109_2 (145, .iconst 0, 1) (List.mem_of_getElem? (i := 6) rfl)),
  List.forall_mem_cons.mpr ⟨sd_zret 109 146 rfl (dk_109_2 (146, .ireturn, 1) (List.mem_of_getElem? (i := 7) rfl)),
  List.forall_mem_cons.mpr ⟨sd_oLdR_n 109 147 3 3 rfl (dk_109_2 (147, .aload_n 3, 1) (List.mem_of_getElem? (i := 8) rfl)),
  List.forall_mem_cons.mpr ⟨sd_iconst 109 148 5 ⟨by decide, by decide⟩ (dk_109_2 (148, .iconst 5, 1) (List.mem_of_getElem? (i := 9) rfl)),
  List.forall_mem_cons.mpr ⟨sd_iald 109 149 (dk_109_2 (149, .iaload, 1) (List.mem_of_getElem? (i := 10) rfl)),
  List.forall_mem_cons.mpr ⟨sd_oStI 109 150 7 (by decide) (dk_109_2 (150, .istore 7, 2) (List.mem_of_getElem? (i := 11) rfl)),
  List.forall_mem_cons.mpr ⟨sd_oLdR_n 109 152 0 0 rfl (dk_109_2 (152, .aload_n 0, 1) (List.mem_of_getElem? (i := 12) rfl)),
  List.forall_mem_cons.mpr ⟨sd_oLdI 109 153 7 (dk_109_2 (153, .iload 7, 2) (List.mem_of_getElem? (i := 13) rfl)),
  List.forall_mem_cons.mpr ⟨sd_oLdI 109 155 4 (dk_109_2 (155, .iload 4, 2) (List.mem_of_getElem? (i := 14) rfl)),
  List.forall_mem_cons.mpr ⟨sd_callV 109 157 97 2 10 101 7 [(2, 223)] (gdV hws_109 hws_97 zw394 zw395 zw396 zw362 zw393) hws_97 rfl (by decide +kernel) rfl rfl ⟨by decide +kernel, by decide +kernel, by decide +kernel⟩ ⟨by decide, by decide⟩ (catch_of (fun h => nomatch h) (List.forall_mem_cons.mpr ⟨⟨[⟨129, 146, 223, 91⟩], ⟨147, 222, 223, 91⟩, [], "java/lang/IllegalStateException", rfl, (List.forall_mem_cons.mpr ⟨Or.inl (by decide), (fun _ h => nomatch h)⟩), by decide, by decide, (iw_109 _ zw379), List.mem_of_getElem? (i := 1) rfl, rfl⟩, (fun _ h => nomatch h)⟩)) RX6 rfl TX6 8 rfl ⟨by decide, by decide⟩ (dk_109_2 (157, .invokevirtual 101, 3) (List.mem_of_getElem? (i := 15) rfl)),
  List.forall_mem_cons.mpr ⟨sd_oLdR_n 109 160 3 3 rfl (dk_109_2 (160, .aload_n 3, 1) (List.mem_of_getElem? (i := 16) rfl)),
  List.forall_mem_cons.mpr ⟨sd_bipush 109 161 9 ⟨by decide, by decide⟩ (by decide) (dk_109_2 (161, .bipush 9, 2) (List.mem_of_getElem? (i := 17) rfl)),
  List.forall_mem_cons.mpr ⟨sd_iald 109 163 (dk_109_2 (163, .iaload, 1) (List.mem_of_getElem? (i := 18) rfl)),
  List.forall_mem_cons.mpr ⟨sd_if_le 109 164 17 181 (by decide) (dk_109_2 (164, .ifCond .le 17, 3) (List.mem_of_getElem? (i := 19) rfl)),
  List.forall_mem_cons.mpr ⟨sd_oLdR_n 109 167 0 0 rfl (dk_109_2 (167, .aload_n 0, 1) (List.mem_of_getElem? (i := 20) rfl)),
  List.forall_mem_cons.mpr ⟨sd_oLdI 109 168 7 (dk_109_2 (168, .iload 7, 2) (List.mem_of_getElem? (i := 21) rfl)),
  List.forall_mem_cons.mpr ⟨sd_oLdR_n 109 170 3 3 rfl (dk_109_2 (170, .aload_n 3, 1) (List.mem_of_getElem? (i := 22) rfl)),
  List.forall_mem_cons.mpr ⟨sd_bipush 109 171 9 ⟨by decide, by decide⟩ (by decide) (dk_109_2 (171, .bipush 9, 2) (List.mem_of_getElem? (i := 23) rfl)),
  List.forall_mem_cons.mpr ⟨sd_iald 109 173 (dk_109_2 (173, .iaload, 1) (List.mem_of_getElem? (i := 24) rfl)),
  List.forall_mem_cons.mpr ⟨sd_oLdR_n 109 174 3 3 rfl (dk_109_2 (174, .aload_n 3, 1) (List.mem_of_getElem? (i := 25) rfl)),
  List.forall_mem_cons.mpr ⟨sd_bipush 109 175 10 ⟨by decide, by decide⟩ (by decide) (dk_109_2 (175, .bipush 10, 2) (List.mem_of_getElem? (i := 26) rfl)),
  List.forall_mem_cons.mpr ⟨sd_iald 109 177 (dk_109_2 (177, .iaload, 1) (List.mem_of_getElem? (i := 27) rfl)),
  List.forall_mem_cons.mpr ⟨sd_callV 109 178 96 3 9 87 7 [(2, 223)] (gdV hws_109 hws_96 zw385 zw386 zw387 zw362 zw384) hws_96 rfl (by decide +kernel) rfl rfl ⟨by decide +kernel, by decide +kernel, by decide +kernel⟩ ⟨by decide, by decide⟩ (catch_of (fun h => nomatch h) (List.forall_mem_cons.mpr ⟨⟨[⟨129, 146, 223, 91⟩], ⟨147, 222, 223, 91⟩, [], "java/lang/IllegalStateException", rfl, (List.forall_mem_cons.mpr ⟨Or.inl (by decide), (fun _ h => nomatch h)⟩), by decide, by decide, (iw_109 _ zw379), List.mem_of_getElem? (i := 1) rfl, rfl⟩, (fun _ h => nomatch h)⟩)) RX6 rfl TX6 8 rfl ⟨by decide, by decide⟩ (dk_109_2 (178, .invokevirtual 87, 3) (List.mem_of_getElem? (i := 28) rfl)),
  List.forall_mem_cons.mpr ⟨sd_oLdR_n 109 181 3 3 rfl (dk_109_2 (181, .aload_n 3, 1) (List.mem_of_getElem? (i := 29) rfl)),
  List.forall_mem_cons.mpr ⟨sd_iconst 109 182 5 ⟨by decide, by decide⟩ (dk_109_2 (182, .iconst 5, 1) (List.mem_of_getElem? (i := 30) rfl)),
  List.forall_mem_cons.mpr ⟨sd_oLdI 109 183 7 (dk_109_2 (183, .iload 7, 2) (List.mem_of_getElem? (i := 31) rfl)),
  List.forall_mem_cons.mpr ⟨sd_iast 109 185 (dk_109_2 (185, .iastore, 1) (List.mem_of_getElem? (i := 32) rfl)),
  List.forall_mem_cons.mpr ⟨sd_oLdR_n 109 186 3 3 rfl (dk_109_2 (186, .aload_n 3, 1) (List.mem_of_getElem? (i := 33) rfl)),
  List.forall_mem_cons.mpr ⟨sd_bipush 109 187 6 ⟨by decide, by decide⟩ (by decide) (dk_109_2 (187, .bipush 6, 2) (List.mem_of_getElem? (i := 34) rfl)),
  List.forall_mem_cons.mpr ⟨sd_oLdI 109 189 7 (dk_109_2 (189, .iload 7, 2) (List.mem_of_getElem? (i := 35) rfl)),
  List.forall_mem_cons.mpr ⟨sd_oLdR_n 109 191 3 3 rfl (dk_109_2 (191, .aload_n 3, 1) (List.mem_of_getElem? (i := 36) rfl)),
  fun _ h => nomatch h⟩⟩⟩⟩⟩⟩⟩⟩⟩⟩⟩⟩⟩⟩⟩⟩⟩⟩⟩⟩⟩⟩⟩⟩⟩⟩⟩⟩⟩⟩⟩⟩⟩⟩⟩⟩⟩⟩⟩
def tb_109_3 : List (Nat × Op1) := [(192, oCI 9 2), (194, oALdI 10), (195, oAdd), (196, oAStI), (197, oLdR 3 1), (198, oCI 8 2), (200, oCI 1 1), (201, oAStI), (202, oLdR 3 1), (203, oCI 9 2), (205, oCI (-1) 1), (206, oAStI), (207, oLdI 6 2), (209, oLdR 0 1), (210, oCallV 92 0 1 7 [(2, 223)]), (213, oALen 14), (214, oCne 221), (217, oCI 1 1), (218, oGoto 222), (221, oCI 0 1), (222, oRetZ), (223, oStR 6 2), (225, oLdI 5 2), (227, oZne 234), (230, oCI 1 1), (231, oGoto 235), (234, oCI 0 1), (235, oRetZ)]
theorem sm_109_3 : ∀ q ∈ tb_109_3, SM GwP MdP D A l 109 q.1 q.2 :=
  List.forall_mem_cons.mpr ⟨sd_bipush 109 192 9 ⟨by decide, by decide⟩ (by decide) (dk_109_2 (192, .bipush 9, 2) (List.mem_of_getElem? (i := 37) rfl)),
  List.forall_mem_cons.mpr ⟨sd_iald 109 194 (dk_109_2 (194, .iaload, 1) (List.mem_of_getElem? (i := 38) rfl)),
  List.forall_mem_cons.mpr ⟨sd_iadd 109 195 (dk_109_2 (195, .iadd, 1) (List.mem_of_getElem? (i := 39) rfl)),
  List.forall_mem_cons.mpr ⟨sd_iast 109 196 (dk_109_3 (196, .iastore, 1) (List.mem_of_getElem? (i := 0) rfl)),
  List.forall_mem_cons.mpr ⟨sd_oLdR_n 109 197 3 3 rfl (dk_109_3 (197, .aload_n 3, 1) (List.mem_of_getElem? (i := 1) rfl)),
  List.forall_mem_cons.mpr ⟨sd_bipush 109 198 8 ⟨by decide, by decide⟩ (by decide) (dk_109_3 (198, .bipush 8, 2) (List.mem_of_getElem? (i := 2) rfl)),
  List.forall_mem_cons.mpr ⟨sd_iconst 109 200 1 ⟨by decide, by decide⟩ (dk_109_3 (200, .iconst 1, 1) (List.mem_of_getElem? (i := 3) rfl)),
  List.forall_mem_cons.mpr ⟨sd_iast 109 201 (dk_109_3 (201, .iastore, 1) (List.mem_of_getElem? (i := 4) rfl)),
  List.forall_mem_cons.mpr ⟨sd_oLdR_n 109 202 3 3 rfl (dk_109_3 (202, .aload_n 3, 1) (List.mem_of_getElem? (i := 5) rfl)),
  List.forall_mem_cons.mpr ⟨sd_bipush 109 203 9 ⟨by decide, by decide⟩ (by decide) (dk_109_3 (203, .bipush 9, 2) (List.mem_of_getElem? (i := 6) rfl)),
  List.forall_mem_cons.mpr ⟨sd_iconst 109 205 (-1) ⟨by decide, by decide⟩ (dk_109_3 (205, .iconst (-1), 1) (List.mem_of_getElem? (i := 7) rfl)),
  List.forall_mem_cons.mpr ⟨sd_iast 109 206 (dk_109_3 (206, .iastore, 1) (List.mem_of_getElem? (i := 8) rfl)),
  List.forall_mem_cons.mpr ⟨sd_oLdI 109 207 6 (dk_109_3 (207, .iload 6, 2) (List.mem_of_getElem? (i := 9) rfl)),
  List.forall_mem_cons.mpr ⟨sd_oLdR_n 109 209 0 0 rfl (dk_109_3 (209, .aload_n 0, 1) (List.mem_of_getElem? (i := 10) rfl)),
  List.forall_mem_cons.mpr ⟨sd_callV 109 210 92 0 1 68 7 [(2, 223)] (gdV hws_109 hws_92 zw368 zw369 zw370 zw362 zw367) hws_92 rfl (by decide +kernel) rfl rfl ⟨by decide +kernel, by decide +kernel, by decide +kernel⟩ ⟨by decide, by decide⟩ (catch_of (fun h => nomatch h) (List.forall_mem_cons.mpr ⟨⟨[⟨129, 146, 223, 91⟩], ⟨147, 222, 223, 91⟩, [], "java/lang/IllegalStateException", rfl, (List.forall_mem_cons.mpr ⟨Or.inl (by decide), (fun _ h => nomatch h)⟩), by decide, by decide, (iw_109 _ zw379), List.mem_of_getElem? (i := 1) rfl, rfl⟩, (fun _ h => nomatch h)⟩)) RX6 rfl TX6 8 rfl ⟨by decide, by decide⟩ (dk_109_3 (210, .invokevirtual 68, 3) (List.mem_of_getElem? (i := 11) rfl)),
  List.forall_mem_cons.mpr ⟨sd_alen 109 213 14 ⟨by decide, by decide⟩ (dk_109_3 (213, .arraylength, 1) (List.mem_of_getElem? (i := 12) rfl)),
  List.forall_mem_cons.mpr ⟨sd_icmp_ne 109 214 7 221 (by decide) (dk_109_3 (214, .if_icmp .ne 7, 3) (List.mem_of_getElem? (i := 13) rfl)),
  List.forall_mem_cons.mpr ⟨sd_iconst 109 217 1 ⟨by decide, by decide⟩ (dk_109_3 (217, .iconst 1, 1) (List.mem_of_getElem? (i := 14) rfl)),
  List.forall_mem_cons.mpr ⟨sd_goto 109 218 4 222 (by decide) (dk_109_3 (218, .goto 4, 3) (List.mem_of_getElem? (i := 15) rfl)),
  List.forall_mem_cons.mpr ⟨sd_iconst 109 221 0 ⟨by decide, by decide⟩ (dk_109_3 (221, .iconst 0, 1) (List.mem_of_getElem? (i := 16) rfl)),
  List.forall_mem_cons.mpr ⟨sd_zret 109 222 rfl (dk_109_3 (222, .ireturn, 1) (List.mem_of_getElem? (i := 17) rfl)),
  List.forall_mem_cons.mpr ⟨sd_oStR 109 223 6 (by decide) (dk_109_3 (223, .astore 6, 2) (List.mem_of_getElem? (i := 18) rfl)),
  List.forall_mem_cons.mpr ⟨sd_oLdI 109 225 5 (dk_109_3 (225, .iload 5, 2) (List.mem_of_getElem? (i := 19) rfl)),
  List.forall_mem_cons.mpr ⟨sd_if_ne 109 227 7 234 (by decide) (dk_109_3 (227, .ifCond .ne 7, 3) (List.mem_of_getElem? (i := 20) rfl)),
  List.forall_mem_cons.mpr ⟨sd_iconst 109 230 1 ⟨by decide, by decide⟩ (dk_109_3 (230, .iconst 1, 1) (List.mem_of_getElem? (i := 21) rfl)),
  List.forall_mem_cons.mpr ⟨sd_goto 109 231 4 235 (by decide) (dk_109_3 (231, .goto 4, 3) (List.mem_of_getElem? (i := 22) rfl)),
  List.forall_mem_cons.mpr ⟨sd_iconst 109 234 0 ⟨by decide, by decide⟩ (dk_109_3 (234, .iconst 0, 1) (List.mem_of_getElem? (i := 23) rfl)),
  List.forall_mem_cons.mpr ⟨sd_zret 109 235 rfl (dk_109_3 (235, .ireturn, 1) (List.mem_of_getElem? (i := 24) rfl)),
  fun _ h => nomatch h⟩⟩⟩⟩⟩⟩⟩⟩⟩⟩⟩⟩⟩⟩⟩⟩⟩⟩⟩⟩⟩⟩⟩⟩⟩⟩⟩⟩
def tb_109 : List (List (Nat × Op1)) := [tb_109_0, tb_109_1, tb_109_2, tb_109_3]
theorem sm_109 : ∀ t ∈ tb_109, ∀ q ∈ t, SM GwP MdP D A l 109 q.1 q.2 := List.forall_mem_cons.mpr ⟨sm_109_0, List.forall_mem_cons.mpr ⟨sm_109_1, List.forall_mem_cons.mpr ⟨sm_109_2, List.forall_mem_cons.mpr ⟨sm_109_3, fun _ h => nomatch h⟩⟩⟩⟩
-- 110: MarginaliaLaw$Page.found(I)I
def dl_110_0 : List (Nat × Instr × Nat) := [(0, .aload_n 0, 1), (1, .getfield 26, 3), (4, .iload_n 1, 1), (5, .aaload, 1), (6, .astore_n 2, 1), (7, .iconst 0, 1), (8, .istore_n 3, 1), (9, .iload_n 3, 1), (10, .sipush 200, 3), (13, .if_icmp .gt 47, 3), (16, .aload_n 0, 1), (17, .aload_n 2, 1), (18, .aload_n 2, 1), (19, .iconst 5, 1), (20, .iaload, 1), (21, .iload_n 3, 1), (22, .isub, 1), (23, .invokevirtual 139, 3), (26, .ifCond .eq 9, 3), (29, .aload_n 2, 1), (30, .iconst 5, 1), (31, .iaload, 1), (32, .iload_n 3, 1), (33, .isub, 1), (34, .ireturn, 1), (35, .aload_n 0, 1), (36, .aload_n 2, 1), (37, .aload_n 2, 1), (38, .iconst 5, 1), (39, .iaload, 1), (40, .iload_n 3, 1), (41, .iadd, 1), (42, .invokevirtual 139, 3), (45, .ifCond .eq 9, 3), (48, .aload_n 2, 1), (49, .iconst 5, 1), (50, .iaload, 1), (51, .iload_n 3, 1), (52, .iadd, 1), (53, .ireturn, 1)]
theorem dk_110_0 : ∀ q ∈ dl_110_0, decode (mCod (MdP 110)) q.1 = .ok q.2 := by
  rw [show mCod (MdP 110) = cX6_found from rfl]
  decide +kernel
def dl_110_1 : List (Nat × Instr × Nat) := [(54, .iinc 3 1, 3), (57, .goto (-48), 3), (60, .iconst (-1), 1), (61, .ireturn, 1)]
theorem dk_110_1 : ∀ q ∈ dl_110_1, decode (mCod (MdP 110)) q.1 = .ok q.2 := by
  rw [show mCod (MdP 110) = cX6_found from rfl]
  decide +kernel
def tb_110_0 : List (Nat × Op1) := [(0, oLdR 0 1), (1, oGetR 7 6), (4, oLdI 1 1), (5, oALdR 14), (6, oStR 2 1), (7, oCI 0 1), (8, oStI 3 1), (9, oLdI 3 1), (10, oCI 200 3), (13, oCgt 60), (16, oLdR 0 1), (17, oLdR 2 1), (18, oLdR 2 1), (19, oCI 5 1), (20, oALdI 10), (21, oLdI 3 1), (22, oSub), (23, oCallV 111 2 4 7 []), (26, oZeq 35), (29, oLdR 2 1), (30, oCI 5 1), (31, oALdI 10), (32, oLdI 3 1), (33, oSub), (34, oRetI), (35, oLdR 0 1), (36, oLdR 2 1), (37, oLdR 2 1), (38, oCI 5 1), (39, oALdI 10), (40, oLdI 3 1), (41, oAdd), (42, oCallV 111 2 4 7 []), (45, oZeq 54), (48, oLdR 2 1), (49, oCI 5 1), (50, oALdI 10), (51, oLdI 3 1), (52, oAdd), (53, oRetI), (54, oInc 3 1), (57, oGoto 9), (60, oCI (-1) 1), (61, oRetI)]
theorem sm_110_0 : ∀ q ∈ tb_110_0, SM GwP MdP D A l 110 q.1 q.2 :=
  List.forall_mem_cons.mpr ⟨sd_oLdR_n 110 0 0 0 rfl (dk_110_0 (0, .aload_n 0, 1) (List.mem_of_getElem? (i := 0) rfl)),
  List.forall_mem_cons.mpr ⟨sd_oGetR 110 1 7 6 26 RX6 TX6 8 rfl ⟨by decide, by decide⟩ rfl (by decide) rfl (fun w h => iw_110 w (uz_6 w h)) rfl (iw_110 _ zw343) (dk_110_0 (1, .getfield 26, 3) (List.mem_of_getElem? (i := 1) rfl)),
  List.forall_mem_cons.mpr ⟨sd_oLdI_n 110 4 1 1 rfl (dk_110_0 (4, .iload_n 1, 1) (List.mem_of_getElem? (i := 2) rfl)),
  List.forall_mem_cons.mpr ⟨sd_aaldA 110 5 (dk_110_0 (5, .aaload, 1) (List.mem_of_getElem? (i := 3) rfl)),
  List.forall_mem_cons.mpr ⟨sd_oStR_n 110 6 2 2 rfl (by decide) (dk_110_0 (6, .astore_n 2, 1) (List.mem_of_getElem? (i := 4) rfl)),
  List.forall_mem_cons.mpr ⟨sd_iconst 110 7 0 ⟨by decide, by decide⟩ (dk_110_0 (7, .iconst 0, 1) (List.mem_of_getElem? (i := 5) rfl)),
  List.forall_mem_cons.mpr ⟨sd_oStI_n 110 8 3 3 rfl (by decide) (dk_110_0 (8, .istore_n 3, 1) (List.mem_of_getElem? (i := 6) rfl)),
  List.forall_mem_cons.mpr ⟨sd_oLdI_n 110 9 3 3 rfl (dk_110_0 (9, .iload_n 3, 1) (List.mem_of_getElem? (i := 7) rfl)),
  List.forall_mem_cons.mpr ⟨sd_sipush 110 10 200 ⟨by decide, by decide⟩ (by decide) (dk_110_0 (10, .sipush 200, 3) (List.mem_of_getElem? (i := 8) rfl)),
  List.forall_mem_cons.mpr ⟨sd_icmp_gt 110 13 47 60 (by decide) (dk_110_0 (13, .if_icmp .gt 47, 3) (List.mem_of_getElem? (i := 9) rfl)),
  List.forall_mem_cons.mpr ⟨sd_oLdR_n 110 16 0 0 rfl (dk_110_0 (16, .aload_n 0, 1) (List.mem_of_getElem? (i := 10) rfl)),
  List.forall_mem_cons.mpr ⟨sd_oLdR_n 110 17 2 2 rfl (dk_110_0 (17, .aload_n 2, 1) (List.mem_of_getElem? (i := 11) rfl)),
  List.forall_mem_cons.mpr ⟨sd_oLdR_n 110 18 2 2 rfl (dk_110_0 (18, .aload_n 2, 1) (List.mem_of_getElem? (i := 12) rfl)),
  List.forall_mem_cons.mpr ⟨sd_iconst 110 19 5 ⟨by decide, by decide⟩ (dk_110_0 (19, .iconst 5, 1) (List.mem_of_getElem? (i := 13) rfl)),
  List.forall_mem_cons.mpr ⟨sd_iald 110 20 (dk_110_0 (20, .iaload, 1) (List.mem_of_getElem? (i := 14) rfl)),
  List.forall_mem_cons.mpr ⟨sd_oLdI_n 110 21 3 3 rfl (dk_110_0 (21, .iload_n 3, 1) (List.mem_of_getElem? (i := 15) rfl)),
  List.forall_mem_cons.mpr ⟨sd_isub 110 22 (dk_110_0 (22, .isub, 1) (List.mem_of_getElem? (i := 16) rfl)),
  List.forall_mem_cons.mpr ⟨sd_callV 110 23 111 2 4 139 7 [] (gdV hws_110 hws_111 zw438 zw439 zw440 zw362 zw437) hws_111 rfl (by decide +kernel) rfl rfl ⟨by decide +kernel, by decide +kernel, by decide +kernel⟩ ⟨by decide, by decide⟩ (catch_nil rfl) RX6 rfl TX6 8 rfl ⟨by decide, by decide⟩ (dk_110_0 (23, .invokevirtual 139, 3) (List.mem_of_getElem? (i := 17) rfl)),
  List.forall_mem_cons.mpr ⟨sd_if_eq 110 26 9 35 (by decide) (dk_110_0 (26, .ifCond .eq 9, 3) (List.mem_of_getElem? (i := 18) rfl)),
  List.forall_mem_cons.mpr ⟨sd_oLdR_n 110 29 2 2 rfl (dk_110_0 (29, .aload_n 2, 1) (List.mem_of_getElem? (i := 19) rfl)),
  List.forall_mem_cons.mpr ⟨sd_iconst 110 30 5 ⟨by decide, by decide⟩ (dk_110_0 (30, .iconst 5, 1) (List.mem_of_getElem? (i := 20) rfl)),
  List.forall_mem_cons.mpr ⟨sd_iald 110 31 (dk_110_0 (31, .iaload, 1) (List.mem_of_getElem? (i := 21) rfl)),
  List.forall_mem_cons.mpr ⟨sd_oLdI_n 110 32 3 3 rfl (dk_110_0 (32, .iload_n 3, 1) (List.mem_of_getElem? (i := 22) rfl)),
  List.forall_mem_cons.mpr ⟨sd_isub 110 33 (dk_110_0 (33, .isub, 1) (List.mem_of_getElem? (i := 23) rfl)),
  List.forall_mem_cons.mpr ⟨sd_iret 110 34 rfl (dk_110_0 (34, .ireturn, 1) (List.mem_of_getElem? (i := 24) rfl)),
  List.forall_mem_cons.mpr ⟨sd_oLdR_n 110 35 0 0 rfl (dk_110_0 (35, .aload_n 0, 1) (List.mem_of_getElem? (i := 25) rfl)),
  List.forall_mem_cons.mpr ⟨sd_oLdR_n 110 36 2 2 rfl (dk_110_0 (36, .aload_n 2, 1) (List.mem_of_getElem? (i := 26) rfl)),
  List.forall_mem_cons.mpr ⟨sd_oLdR_n 110 37 2 2 rfl (dk_110_0 (37, .aload_n 2, 1) (List.mem_of_getElem? (i := 27) rfl)),
  List.forall_mem_cons.mpr ⟨sd_iconst 110 38 5 ⟨by decide, by decide⟩ (dk_110_0 (38, .iconst 5, 1) (List.mem_of_getElem? (i := 28) rfl)),
  List.forall_mem_cons.mpr ⟨sd_iald 110 39 (dk_110_0 (39, .iaload, 1) (List.mem_of_getElem? (i := 29) rfl)),
  List.forall_mem_cons.mpr ⟨sd_oLdI_n 110 40 3 3 rfl (dk_110_0 (40, .iload_n 3, 1) (List.mem_of_getElem? (i := 30) rfl)),
  List.forall_mem_cons.mpr ⟨sd_iadd 110 41 (dk_110_0 (41, .iadd, 1) (List.mem_of_getElem? (i := 31) rfl)),
  List.forall_mem_cons.mpr ⟨sd_callV 110 42 111 2 4 139 7 [] (gdV hws_110 hws_111 zw438 zw439 zw440 zw362 zw437) hws_111 rfl (by decide +kernel) rfl rfl ⟨by decide +kernel, by decide +kernel, by decide +kernel⟩ ⟨by decide, by decide⟩ (catch_nil rfl) RX6 rfl TX6 8 rfl ⟨by decide, by decide⟩ (dk_110_0 (42, .invokevirtual 139, 3) (List.mem_of_getElem? (i := 32) rfl)),
  List.forall_mem_cons.mpr ⟨sd_if_eq 110 45 9 54 (by decide) (dk_110_0 (45, .ifCond .eq 9, 3) (List.mem_of_getElem? (i := 33) rfl)),
  List.forall_mem_cons.mpr ⟨sd_oLdR_n 110 48 2 2 rfl (dk_110_0 (48, .aload_n 2, 1) (List.mem_of_getElem? (i := 34) rfl)),
  List.forall_mem_cons.mpr ⟨sd_iconst 110 49 5 ⟨by decide, by decide⟩ (dk_110_0 (49, .iconst 5, 1) (List.mem_of_getElem? (i := 35) rfl)),
  List.forall_mem_cons.mpr ⟨sd_iald 110 50 (dk_110_0 (50, .iaload, 1) (List.mem_of_getElem? (i := 36) rfl)),
  List.forall_mem_cons.mpr ⟨sd_oLdI_n 110 51 3 3 rfl (dk_110_0 (51, .iload_n 3, 1) (List.mem_of_getElem? (i := 37) rfl)),
  List.forall_mem_cons.mpr ⟨sd_iadd 110 52 (dk_110_0 (52, .iadd, 1) (List.mem_of_getElem? (i := 38) rfl)),
  List.forall_mem_cons.mpr ⟨sd_iret 110 53 rfl (dk_110_0 (53, .ireturn, 1) (List.mem_of_getElem? (i := 39) rfl)),
  List.forall_mem_cons.mpr ⟨sd_iinc 110 54 3 1 (by decide) (dk_110_1 (54, .iinc 3 1, 3) (List.mem_of_getElem? (i := 0) rfl)),
  List.forall_mem_cons.mpr ⟨sd_goto 110 57 (-48) 9 (by decide) (dk_110_1 (57, .goto (-48), 3) (List.mem_of_getElem? (i := 1) rfl)),
  List.forall_mem_cons.mpr ⟨sd_iconst 110 60 (-1) ⟨by decide, by decide⟩ (dk_110_1 (60, .iconst (-1), 1) (List.mem_of_getElem? (i := 2) rfl)),
  List.forall_mem_cons.mpr ⟨sd_iret 110 61 rfl (dk_110_1 (61, .ireturn, 1) (List.mem_of_getElem? (i := 3) rfl)),
  fun _ h => nomatch h⟩⟩⟩⟩⟩⟩⟩⟩⟩⟩⟩⟩⟩⟩⟩⟩⟩⟩⟩⟩⟩⟩⟩⟩⟩⟩⟩⟩⟩⟩⟩⟩⟩⟩⟩⟩⟩⟩⟩⟩⟩⟩⟩⟩
def tb_110 : List (List (Nat × Op1)) := [tb_110_0]
theorem sm_110 : ∀ t ∈ tb_110, ∀ q ∈ t, SM GwP MdP D A l 110 q.1 q.2 := List.forall_mem_cons.mpr ⟨sm_110_0, fun _ h => nomatch h⟩
-- 111: MarginaliaLaw$Page.stands([II)Z
def dl_111_0 : List (Nat × Instr × Nat) := [(0, .iload_n 2, 1), (1, .ifCond .lt 18, 3), (4, .iload_n 2, 1), (5, .aload_n 1, 1), (6, .arraylength, 1), (7, .iadd, 1), (8, .bipush 11, 2), (10, .isub, 1), (11, .aload_n 0, 1), (12, .invokevirtual 68, 3), (15, .arraylength, 1), (16, .if_icmp .le 5, 3), (19, .iconst 0, 1), (20, .ireturn, 1), (21, .bipush 11, 2), (23, .istore_n 3, 1), (24, .iload_n 3, 1), (25, .aload_n 1, 1), (26, .arraylength, 1), (27, .if_icmp .ge 30, 3), (30, .aload_n 0, 1), (31, .invokevirtual 68, 3), (34, .iload_n 2, 1), (35, .iload_n 3, 1), (36, .iadd, 1), (37, .bipush 11, 2), (39, .isub, 1), (40, .aaload, 1), (41, .iconst 1, 1), (42, .iaload, 1), (43, .aload_n 1, 1), (44, .iload_n 3, 1), (45, .iaload, 1), (46, .if_icmp .eq 5, 3), (49, .iconst 0, 1), (50, .ireturn, 1), (51, .iinc 3 1, 3), (54, .goto (-30), 3), (57, .iconst 1, 1), (58, .ireturn, 1)]
theorem dk_111_0 : ∀ q ∈ dl_111_0, decode (mCod (MdP 111)) q.1 = .ok q.2 := by
  rw [show mCod (MdP 111) = cX6_stands from rfl]
  decide +kernel
def tb_111_0 : List (Nat × Op1) := [(0, oLdI 2 1), (1, oZlt 19), (4, oLdI 2 1), (5, oLdR 1 1), (6, oALen 10), (7, oAdd), (8, oCI 11 2), (10, oSub), (11, oLdR 0 1), (12, oCallV 92 0 1 7 []), (15, oALen 14), (16, oCle 21), (19, oCI 0 1), (20, oRetZ), (21, oCI 11 2), (23, oStI 3 1), (24, oLdI 3 1), (25, oLdR 1 1), (26, oALen 10), (27, oCge 57), (30, oLdR 0 1), (31, oCallV 92 0 1 7 []), (34, oLdI 2 1), (35, oLdI 3 1), (36, oAdd), (37, oCI 11 2), (39, oSub), (40, oALdR 14), (41, oCI 1 1), (42, oALdI 10), (43, oLdR 1 1), (44, oLdI 3 1), (45, oALdI 10), (46, oCeq 51), (49, oCI 0 1), (50, oRetZ), (51, oInc 3 1), (54, oGoto 24), (57, oCI 1 1), (58, oRetZ)]
theorem sm_111_0 : ∀ q ∈ tb_111_0, SM GwP MdP D A l 111 q.1 q.2 :=
  List.forall_mem_cons.mpr ⟨sd_oLdI_n 111 0 2 2 rfl (dk_111_0 (0, .iload_n 2, 1) (List.mem_of_getElem? (i := 0) rfl)),
  List.forall_mem_cons.mpr ⟨sd_if_lt 111 1 18 19 (by decide) (dk_111_0 (1, .ifCond .lt 18, 3) (List.mem_of_getElem? (i := 1) rfl)),
  List.forall_mem_cons.mpr ⟨sd_oLdI_n 111 4 2 2 rfl (dk_111_0 (4, .iload_n 2, 1) (List.mem_of_getElem? (i := 2) rfl)),
  List.forall_mem_cons.mpr ⟨sd_oLdR_n 111 5 1 1 rfl (dk_111_0 (5, .aload_n 1, 1) (List.mem_of_getElem? (i := 3) rfl)),
  List.forall_mem_cons.mpr ⟨sd_alen 111 6 10 ⟨by decide, by decide⟩ (dk_111_0 (6, .arraylength, 1) (List.mem_of_getElem? (i := 4) rfl)),
  List.forall_mem_cons.mpr ⟨sd_iadd 111 7 (dk_111_0 (7, .iadd, 1) (List.mem_of_getElem? (i := 5) rfl)),
  List.forall_mem_cons.mpr ⟨sd_bipush 111 8 11 ⟨by decide, by decide⟩ (by decide) (dk_111_0 (8, .bipush 11, 2) (List.mem_of_getElem? (i := 6) rfl)),
  List.forall_mem_cons.mpr ⟨sd_isub 111 10 (dk_111_0 (10, .isub, 1) (List.mem_of_getElem? (i := 7) rfl)),
  List.forall_mem_cons.mpr ⟨sd_oLdR_n 111 11 0 0 rfl (dk_111_0 (11, .aload_n 0, 1) (List.mem_of_getElem? (i := 8) rfl)),
  List.forall_mem_cons.mpr ⟨sd_callV 111 12 92 0 1 68 7 [] (gdV hws_111 hws_92 zw368 zw369 zw370 zw362 zw367) hws_92 rfl (by decide +kernel) rfl rfl ⟨by decide +kernel, by decide +kernel, by decide +kernel⟩ ⟨by decide, by decide⟩ (catch_nil rfl) RX6 rfl TX6 8 rfl ⟨by decide, by decide⟩ (dk_111_0 (12, .invokevirtual 68, 3) (List.mem_of_getElem? (i := 9) rfl)),
  List.forall_mem_cons.mpr ⟨sd_alen 111 15 14 ⟨by decide, by decide⟩ (dk_111_0 (15, .arraylength, 1) (List.mem_of_getElem? (i := 10) rfl)),
  List.forall_mem_cons.mpr ⟨sd_icmp_le 111 16 5 21 (by decide) (dk_111_0 (16, .if_icmp .le 5, 3) (List.mem_of_getElem? (i := 11) rfl)),
  List.forall_mem_cons.mpr ⟨sd_iconst 111 19 0 ⟨by decide, by decide⟩ (dk_111_0 (19, .iconst 0, 1) (List.mem_of_getElem? (i := 12) rfl)),
  List.forall_mem_cons.mpr ⟨sd_zret 111 20 rfl (dk_111_0 (20, .ireturn, 1) (List.mem_of_getElem? (i := 13) rfl)),
  List.forall_mem_cons.mpr ⟨sd_bipush 111 21 11 ⟨by decide, by decide⟩ (by decide) (dk_111_0 (21, .bipush 11, 2) (List.mem_of_getElem? (i := 14) rfl)),
  List.forall_mem_cons.mpr ⟨sd_oStI_n 111 23 3 3 rfl (by decide) (dk_111_0 (23, .istore_n 3, 1) (List.mem_of_getElem? (i := 15) rfl)),
  List.forall_mem_cons.mpr ⟨sd_oLdI_n 111 24 3 3 rfl (dk_111_0 (24, .iload_n 3, 1) (List.mem_of_getElem? (i := 16) rfl)),
  List.forall_mem_cons.mpr ⟨sd_oLdR_n 111 25 1 1 rfl (dk_111_0 (25, .aload_n 1, 1) (List.mem_of_getElem? (i := 17) rfl)),
  List.forall_mem_cons.mpr ⟨sd_alen 111 26 10 ⟨by decide, by decide⟩ (dk_111_0 (26, .arraylength, 1) (List.mem_of_getElem? (i := 18) rfl)),
  List.forall_mem_cons.mpr ⟨sd_icmp_ge 111 27 30 57 (by decide) (dk_111_0 (27, .if_icmp .ge 30, 3) (List.mem_of_getElem? (i := 19) rfl)),
  List.forall_mem_cons.mpr ⟨sd_oLdR_n 111 30 0 0 rfl (dk_111_0 (30, .aload_n 0, 1) (List.mem_of_getElem? (i := 20) rfl)),
  List.forall_mem_cons.mpr ⟨sd_callV 111 31 92 0 1 68 7 [] (gdV hws_111 hws_92 zw368 zw369 zw370 zw362 zw367) hws_92 rfl (by decide +kernel) rfl rfl ⟨by decide +kernel, by decide +kernel, by decide +kernel⟩ ⟨by decide, by decide⟩ (catch_nil rfl) RX6 rfl TX6 8 rfl ⟨by decide, by decide⟩ (dk_111_0 (31, .invokevirtual 68, 3) (List.mem_of_getElem? (i := 21) rfl)),
  List.forall_mem_cons.mpr ⟨sd_oLdI_n 111 34 2 2 rfl (dk_111_0 (34, .iload_n 2, 1) (List.mem_of_getElem? (i := 22) rfl)),
  List.forall_mem_cons.mpr ⟨sd_oLdI_n 111 35 3 3 rfl (dk_111_0 (35, .iload_n 3, 1) (List.mem_of_getElem? (i := 23) rfl)),
  List.forall_mem_cons.mpr ⟨sd_iadd 111 36 (dk_111_0 (36, .iadd, 1) (List.mem_of_getElem? (i := 24) rfl)),
  List.forall_mem_cons.mpr ⟨sd_bipush 111 37 11 ⟨by decide, by decide⟩ (by decide) (dk_111_0 (37, .bipush 11, 2) (List.mem_of_getElem? (i := 25) rfl)),
  List.forall_mem_cons.mpr ⟨sd_isub 111 39 (dk_111_0 (39, .isub, 1) (List.mem_of_getElem? (i := 26) rfl)),
  List.forall_mem_cons.mpr ⟨sd_aaldA 111 40 (dk_111_0 (40, .aaload, 1) (List.mem_of_getElem? (i := 27) rfl)),
  List.forall_mem_cons.mpr ⟨sd_iconst 111 41 1 ⟨by decide, by decide⟩ (dk_111_0 (41, .iconst 1, 1) (List.mem_of_getElem? (i := 28) rfl)),
  List.forall_mem_cons.mpr ⟨sd_iald 111 42 (dk_111_0 (42, .iaload, 1) (List.mem_of_getElem? (i := 29) rfl)),
  List.forall_mem_cons.mpr ⟨sd_oLdR_n 111 43 1 1 rfl (dk_111_0 (43, .aload_n 1, 1) (List.mem_of_getElem? (i := 30) rfl)),
  List.forall_mem_cons.mpr ⟨sd_oLdI_n 111 44 3 3 rfl (dk_111_0 (44, .iload_n 3, 1) (List.mem_of_getElem? (i := 31) rfl)),
  List.forall_mem_cons.mpr ⟨sd_iald 111 45 (dk_111_0 (45, .iaload, 1) (List.mem_of_getElem? (i := 32) rfl)),
  List.forall_mem_cons.mpr ⟨sd_icmp_eq 111 46 5 51 (by decide) (dk_111_0 (46, .if_icmp .eq 5, 3) (List.mem_of_getElem? (i := 33) rfl)),
  List.forall_mem_cons.mpr ⟨sd_iconst 111 49 0 ⟨by decide, by decide⟩ (dk_111_0 (49, .iconst 0, 1) (List.mem_of_getElem? (i := 34) rfl)),
  List.forall_mem_cons.mpr ⟨sd_zret 111 50 rfl (dk_111_0 (50, .ireturn, 1) (List.mem_of_getElem? (i := 35) rfl)),
  List.forall_mem_cons.mpr ⟨sd_iinc 111 51 3 1 (by decide) (dk_111_0 (51, .iinc 3 1, 3) (List.mem_of_getElem? (i := 36) rfl)),
  List.forall_mem_cons.mpr ⟨sd_goto 111 54 (-30) 24 (by decide) (dk_111_0 (54, .goto (-30), 3) (List.mem_of_getElem? (i := 37) rfl)),
  List.forall_mem_cons.mpr ⟨sd_iconst 111 57 1 ⟨by decide, by decide⟩ (dk_111_0 (57, .iconst 1, 1) (List.mem_of_getElem? (i := 38) rfl)),
  List.forall_mem_cons.mpr ⟨sd_zret 111 58 rfl (dk_111_0 (58, .ireturn, 1) (List.mem_of_getElem? (i := 39) rfl)),
  fun _ h => nomatch h⟩⟩⟩⟩⟩⟩⟩⟩⟩⟩⟩⟩⟩⟩⟩⟩⟩⟩⟩⟩⟩⟩⟩⟩⟩⟩⟩⟩⟩⟩⟩⟩⟩⟩⟩⟩⟩⟩⟩⟩
def tb_111 : List (List (Nat × Op1)) := [tb_111_0]
theorem sm_111 : ∀ t ∈ tb_111, ∀ q ∈ t, SM GwP MdP D A l 111 q.1 q.2 := List.forall_mem_cons.mpr ⟨sm_111_0, fun _ h => nomatch h⟩
-- 112: MarginaliaLaw$Page.isHead(I)Z
def dl_112_0 : List (Nat × Instr × Nat) := [(0, .aload_n 0, 1), (1, .getfield 26, 3), (4, .iload_n 1, 1), (5, .aaload, 1), (6, .iconst 2, 1), (7, .iaload, 1), (8, .ifCond .ge 19, 3), (11, .aload_n 0, 1), (12, .getfield 26, 3), (15, .iload_n 1, 1), (16, .aaload, 1), (17, .iconst 4, 1), (18, .iaload, 1), (19, .iconst 2, 1), (20, .if_icmp .ge 7, 3), (23, .iconst 1, 1), (24, .goto 4, 3), (27, .iconst 0, 1), (28, .ireturn, 1)]
theorem dk_112_0 : ∀ q ∈ dl_112_0, decode (mCod (MdP 112)) q.1 = .ok q.2 := by
  rw [show mCod (MdP 112) = cX6_isHead from rfl]
  decide +kernel
def tb_112_0 : List (Nat × Op1) := [(0, oLdR 0 1), (1, oGetR 7 6), (4, oLdI 1 1), (5, oALdR 14), (6, oCI 2 1), (7, oALdI 10), (8, oZge 27), (11, oLdR 0 1), (12, oGetR 7 6), (15, oLdI 1 1), (16, oALdR 14), (17, oCI 4 1), (18, oALdI 10), (19, oCI 2 1), (20, oCge 27), (23, oCI 1 1), (24, oGoto 28), (27, oCI 0 1), (28, oRetZ)]
theorem sm_112_0 : ∀ q ∈ tb_112_0, SM GwP MdP D A l 112 q.1 q.2 :=
  List.forall_mem_cons.mpr ⟨sd_oLdR_n 112 0 0 0 rfl (dk_112_0 (0, .aload_n 0, 1) (List.mem_of_getElem? (i := 0) rfl)),
  List.forall_mem_cons.mpr ⟨sd_oGetR 112 1 7 6 26 RX6 TX6 8 rfl ⟨by decide, by decide⟩ rfl (by decide) rfl (fun w h => iw_112 w (uz_6 w h)) rfl (iw_112 _ zw343) (dk_112_0 (1, .getfield 26, 3) (List.mem_of_getElem? (i := 1) rfl)),
  List.forall_mem_cons.mpr ⟨sd_oLdI_n 112 4 1 1 rfl (dk_112_0 (4, .iload_n 1, 1) (List.mem_of_getElem? (i := 2) rfl)),
  List.forall_mem_cons.mpr ⟨sd_aaldA 112 5 (dk_112_0 (5, .aaload, 1) (List.mem_of_getElem? (i := 3) rfl)),
  List.forall_mem_cons.mpr ⟨sd_iconst 112 6 2 ⟨by decide, by decide⟩ (dk_112_0 (6, .iconst 2, 1) (List.mem_of_getElem? (i := 4) rfl)),
  List.forall_mem_cons.mpr ⟨sd_iald 112 7 (dk_112_0 (7, .iaload, 1) (List.mem_of_getElem? (i := 5) rfl)),
  List.forall_mem_cons.mpr ⟨sd_if_ge 112 8 19 27 (by decide) (dk_112_0 (8, .ifCond .ge 19, 3) (List.mem_of_getElem? (i := 6) rfl)),
  List.forall_mem_cons.mpr ⟨sd_oLdR_n 112 11 0 0 rfl (dk_112_0 (11, .aload_n 0, 1) (List.mem_of_getElem? (i := 7) rfl)),
  List.forall_mem_cons.mpr ⟨sd_oGetR 112 12 7 6 26 RX6 TX6 8 rfl ⟨by decide, by decide⟩ rfl (by decide) rfl (fun w h => iw_112 w (uz_6 w h)) rfl (iw_112 _ zw343) (dk_112_0 (12, .getfield 26, 3) (List.mem_of_getElem? (i := 8) rfl)),
  List.forall_mem_cons.mpr ⟨sd_oLdI_n 112 15 1 1 rfl (dk_112_0 (15, .iload_n 1, 1) (List.mem_of_getElem? (i := 9) rfl)),
  List.forall_mem_cons.mpr ⟨sd_aaldA 112 16 (dk_112_0 (16, .aaload, 1) (List.mem_of_getElem? (i := 10) rfl)),
  List.forall_mem_cons.mpr ⟨sd_iconst 112 17 4 ⟨by decide, by decide⟩ (dk_112_0 (17, .iconst 4, 1) (List.mem_of_getElem? (i := 11) rfl)),
  List.forall_mem_cons.mpr ⟨sd_iald 112 18 (dk_112_0 (18, .iaload, 1) (List.mem_of_getElem? (i := 12) rfl)),
  List.forall_mem_cons.mpr ⟨sd_iconst 112 19 2 ⟨by decide, by decide⟩ (dk_112_0 (19, .iconst 2, 1) (List.mem_of_getElem? (i := 13) rfl)),
  List.forall_mem_cons.mpr ⟨sd_icmp_ge 112 20 7 27 (by decide) (dk_112_0 (20, .if_icmp .ge 7, 3) (List.mem_of_getElem? (i := 14) rfl)),
  List.forall_mem_cons.mpr ⟨sd_iconst 112 23 1 ⟨by decide, by decide⟩ (dk_112_0 (23, .iconst 1, 1) (List.mem_of_getElem? (i := 15) rfl)),
  List.forall_mem_cons.mpr ⟨sd_goto 112 24 4 28 (by decide) (dk_112_0 (24, .goto 4, 3) (List.mem_of_getElem? (i := 16) rfl)),
  List.forall_mem_cons.mpr ⟨sd_iconst 112 27 0 ⟨by decide, by decide⟩ (dk_112_0 (27, .iconst 0, 1) (List.mem_of_getElem? (i := 17) rfl)),
  List.forall_mem_cons.mpr ⟨sd_zret 112 28 rfl (dk_112_0 (28, .ireturn, 1) (List.mem_of_getElem? (i := 18) rfl)),
  fun _ h => nomatch h⟩⟩⟩⟩⟩⟩⟩⟩⟩⟩⟩⟩⟩⟩⟩⟩⟩⟩⟩
def tb_112 : List (List (Nat × Op1)) := [tb_112_0]
theorem sm_112 : ∀ t ∈ tb_112, ∀ q ∈ t, SM GwP MdP D A l 112 q.1 q.2 := List.forall_mem_cons.mpr ⟨sm_112_0, fun _ h => nomatch h⟩
-- 113: MarginaliaLaw$Page.heal()Z
def dl_113_0 : List (Nat × Instr × Nat) := [(0, .iconst 0, 1), (1, .istore_n 1, 1), (2, .iconst 0, 1), (3, .istore_n 2, 1), (4, .iload_n 2, 1), (5, .aload_n 0, 1), (6, .getfield 26, 3), (9, .arraylength, 1), (10, .if_icmp .ge 92, 3), (13, .aload_n 0, 1), (14, .iload_n 2, 1), (15, .invokevirtual 143, 3), (18, .ifCond .eq 78, 3), (21, .aload_n 0, 1), (22, .getfield 26, 3), (25, .iload_n 2, 1), (26, .aaload, 1), (27, .iconst 5, 1), (28, .iaload, 1), (29, .aload_n 0, 1), (30, .getfield 26, 3), (33, .iload_n 2, 1), (34, .aaload, 1), (35, .bipush 6, 2), (37, .iaload, 1), (38, .if_icmp .lt 58, 3), (41, .aload_n 0, 1), (42, .iload_n 2, 1), (43, .invokevirtual 147, 3), (46, .ifCond .ge 6, 3), (49, .goto 47, 3), (52, .aload_n 0, 1), (53, .getfield 26, 3), (56, .iload_n 2, 1), (57, .aaload, 1), (58, .iconst 5, 1), (59, .aload_n 0, 1), (60, .iload_n 2, 1), (61, .invokevirtual 147, 3), (64, .iastore, 1)]
theorem dk_113_0 : ∀ q ∈ dl_113_0, decode (mCod (MdP 113)) q.1 = .ok q.2 := by
  rw [show mCod (MdP 113) = cX6_heal from rfl]
  decide +kernel
def dl_113_1 : List (Nat × Instr × Nat) := [(65, .aload_n 0, 1), (66, .getfield 26, 3), (69, .iload_n 2, 1), (70, .aaload, 1), (71, .bipush 6, 2), (73, .aload_n 0, 1), (74, .getfield 26, 3), (77, .iload_n 2, 1), (78, .aaload, 1), (79, .iconst 5, 1), (80, .iaload, 1), (81, .aload_n 0, 1), (82, .getfield 26, 3), (85, .iload_n 2, 1), (86, .aaload, 1), (87, .arraylength, 1), (88, .iadd, 1), (89, .bipush 11, 2), (91, .isub, 1), (92, .iastore, 1), (93, .iinc 1 1, 3), (96, .iinc 2 1, 3), (99, .goto (-95), 3), (102, .aload_n 0, 1), (103, .getfield 10, 3), (106, .invokevirtual 150, 3), (109, .iload_n 1, 1), (110, .if_icmp .ne 7, 3), (113, .iconst 1, 1), (114, .goto 4, 3), (117, .iconst 0, 1), (118, .ireturn, 1)]
theorem dk_113_1 : ∀ q ∈ dl_113_1, decode (mCod (MdP 113)) q.1 = .ok q.2 := by
  rw [show mCod (MdP 113) = cX6_heal from rfl]
  decide +kernel
def tb_113_0 : List (Nat × Op1) := [(0, oCI 0 1), (1, oStI 1 1), (2, oCI 0 1), (3, oStI 2 1), (4, oLdI 2 1), (5, oLdR 0 1), (6, oGetR 7 6), (9, oALen 14), (10, oCge 102), (13, oLdR 0 1), (14, oLdI 2 1), (15, oCallV 112 1 2 7 []), (18, oZeq 96), (21, oLdR 0 1), (22, oGetR 7 6), (25, oLdI 2 1), (26, oALdR 14), (27, oCI 5 1), (28, oALdI 10), (29, oLdR 0 1), (30, oGetR 7 6), (33, oLdI 2 1), (34, oALdR 14), (35, oCI 6 2), (37, oALdI 10), (38, oClt 96), (41, oLdR 0 1), (42, oLdI 2 1), (43, oCallV 110 1 4 7 []), (46, oZge 52), (49, oGoto 96), (52, oLdR 0 1), (53, oGetR 7 6), (56, oLdI 2 1), (57, oALdR 14), (58, oCI 5 1), (59, oLdR 0 1), (60, oLdI 2 1), (61, oCallV 110 1 4 7 [])]
theorem sm_113_0 : ∀ q ∈ tb_113_0, SM GwP MdP D A l 113 q.1 q.2 :=
  List.forall_mem_cons.mpr ⟨sd_iconst 113 0 0 ⟨by decide, by decide⟩ (dk_113_0 (0, .iconst 0, 1) (List.mem_of_getElem? (i := 0) rfl)),
  List.forall_mem_cons.mpr ⟨sd_oStI_n 113 1 1 1 rfl (by decide) (dk_113_0 (1, .istore_n 1, 1) (List.mem_of_getElem? (i := 1) rfl)),
  List.forall_mem_cons.mpr ⟨sd_iconst 113 2 0 ⟨by decide, by decide⟩ (dk_113_0 (2, .iconst 0, 1) (List.mem_of_getElem? (i := 2) rfl)),
  List.forall_mem_cons.mpr ⟨sd_oStI_n 113 3 2 2 rfl (by decide) (dk_113_0 (3, .istore_n 2, 1) (List.mem_of_getElem? (i := 3) rfl)),
  List.forall_mem_cons.mpr ⟨sd_oLdI_n 113 4 2 2 rfl (dk_113_0 (4, .iload_n 2, 1) (List.mem_of_getElem? (i := 4) rfl)),
  List.forall_mem_cons.mpr ⟨sd_oLdR_n 113 5 0 0 rfl (dk_113_0 (5, .aload_n 0, 1) (List.mem_of_getElem? (i := 5) rfl)),
  List.forall_mem_cons.mpr ⟨sd_oGetR 113 6 7 6 26 RX6 TX6 8 rfl ⟨by decide, by decide⟩ rfl (by decide) rfl (fun w h => iw_113 w (uz_6 w h)) rfl (iw_113 _ zw343) (dk_113_0 (6, .getfield 26, 3) (List.mem_of_getElem? (i := 6) rfl)),
  List.forall_mem_cons.mpr ⟨sd_alen 113 9 14 ⟨by decide, by decide⟩ (dk_113_0 (9, .arraylength, 1) (List.mem_of_getElem? (i := 7) rfl)),
  List.forall_mem_cons.mpr ⟨sd_icmp_ge 113 10 92 102 (by decide) (dk_113_0 (10, .if_icmp .ge 92, 3) (List.mem_of_getElem? (i := 8) rfl)),
  List.forall_mem_cons.mpr ⟨sd_oLdR_n 113 13 0 0 rfl (dk_113_0 (13, .aload_n 0, 1) (List.mem_of_getElem? (i := 9) rfl)),
  List.forall_mem_cons.mpr ⟨sd_oLdI_n 113 14 2 2 rfl (dk_113_0 (14, .iload_n 2, 1) (List.mem_of_getElem? (i := 10) rfl)),
  List.forall_mem_cons.mpr ⟨sd_callV 113 15 112 1 2 143 7 [] (gdV hws_113 hws_112 zw442 zw443 zw444 zw362 zw441) hws_112 rfl (by decide +kernel) rfl rfl ⟨by decide +kernel, by decide +kernel, by decide +kernel⟩ ⟨by decide, by decide⟩ (catch_nil rfl) RX6 rfl TX6 8 rfl ⟨by decide, by decide⟩ (dk_113_0 (15, .invokevirtual 143, 3) (List.mem_of_getElem? (i := 11) rfl)),
  List.forall_mem_cons.mpr ⟨sd_if_eq 113 18 78 96 (by decide) (dk_113_0 (18, .ifCond .eq 78, 3) (List.mem_of_getElem? (i := 12) rfl)),
  List.forall_mem_cons.mpr ⟨sd_oLdR_n 113 21 0 0 rfl (dk_113_0 (21, .aload_n 0, 1) (List.mem_of_getElem? (i := 13) rfl)),
  List.forall_mem_cons.mpr ⟨sd_oGetR 113 22 7 6 26 RX6 TX6 8 rfl ⟨by decide, by decide⟩ rfl (by decide) rfl (fun w h => iw_113 w (uz_6 w h)) rfl (iw_113 _ zw343) (dk_113_0 (22, .getfield 26, 3) (List.mem_of_getElem? (i := 14) rfl)),
  List.forall_mem_cons.mpr ⟨sd_oLdI_n 113 25 2 2 rfl (dk_113_0 (25, .iload_n 2, 1) (List.mem_of_getElem? (i := 15) rfl)),
  List.forall_mem_cons.mpr ⟨sd_aaldA 113 26 (dk_113_0 (26, .aaload, 1) (List.mem_of_getElem? (i := 16) rfl)),
  List.forall_mem_cons.mpr ⟨sd_iconst 113 27 5 ⟨by decide, by decide⟩ (dk_113_0 (27, .iconst 5, 1) (List.mem_of_getElem? (i := 17) rfl)),
  List.forall_mem_cons.mpr ⟨sd_iald 113 28 (dk_113_0 (28, .iaload, 1) (List.mem_of_getElem? (i := 18) rfl)),
  List.forall_mem_cons.mpr ⟨sd_oLdR_n 113 29 0 0 rfl (dk_113_0 (29, .aload_n 0, 1) (List.mem_of_getElem? (i := 19) rfl)),
  List.forall_mem_cons.mpr ⟨sd_oGetR 113 30 7 6 26 RX6 TX6 8 rfl ⟨by decide, by decide⟩ rfl (by decide) rfl (fun w h => iw_113 w (uz_6 w h)) rfl (iw_113 _ zw343) (dk_113_0 (30, .getfield 26, 3) (List.mem_of_getElem? (i := 20) rfl)),
  List.forall_mem_cons.mpr ⟨sd_oLdI_n 113 33 2 2 rfl (dk_113_0 (33, .iload_n 2, 1) (List.mem_of_getElem? (i := 21) rfl)),
  List.forall_mem_cons.mpr ⟨sd_aaldA 113 34 (dk_113_0 (34, .aaload, 1) (List.mem_of_getElem? (i := 22) rfl)),
  List.forall_mem_cons.mpr ⟨sd_bipush 113 35 6 ⟨by decide, by decide⟩ (by decide) (dk_113_0 (35, .bipush 6, 2) (List.mem_of_getElem? (i := 23) rfl)),
  List.forall_mem_cons.mpr ⟨sd_iald 113 37 (dk_113_0 (37, .iaload, 1) (List.mem_of_getElem? (i := 24) rfl)),
  List.forall_mem_cons.mpr ⟨sd_icmp_lt 113 38 58 96 (by decide) (dk_113_0 (38, .if_icmp .lt 58, 3) (List.mem_of_getElem? (i := 25) rfl)),
  List.forall_mem_cons.mpr ⟨sd_oLdR_n 113 41 0 0 rfl (dk_113_0 (41, .aload_n 0, 1) (List.mem_of_getElem? (i := 26) rfl)),
  List.forall_mem_cons.mpr ⟨sd_oLdI_n 113 42 2 2 rfl (dk_113_0 (42, .iload_n 2, 1) (List.mem_of_getElem? (i := 27) rfl)),
  List.forall_mem_cons.mpr ⟨sd_callV 113 43 110 1 4 147 7 [] (gdV hws_113 hws_110 zw446 zw447 zw448 zw362 zw445) hws_110 rfl (by decide +kernel) rfl rfl ⟨by decide +kernel, by decide +kernel, by decide +kernel⟩ ⟨by decide, by decide⟩ (catch_nil rfl) RX6 rfl TX6 8 rfl ⟨by decide, by decide⟩ (dk_113_0 (43, .invokevirtual 147, 3) (List.mem_of_getElem? (i := 28) rfl)),
  List.forall_mem_cons.mpr ⟨sd_if_ge 113 46 6 52 (by decide) (dk_113_0 (46, .ifCond .ge 6, 3) (List.mem_of_getElem? (i := 29) rfl)),
  List.forall_mem_cons.mpr ⟨sd_goto 113 49 47 96 (by decide) (dk_113_0 (49, .goto 47, 3) (List.mem_of_getElem? (i := 30) rfl)),
  List.forall_mem_cons.mpr ⟨sd_oLdR_n 113 52 0 0 rfl (dk_113_0 (52, .aload_n 0, 1) (List.mem_of_getElem? (i := 31) rfl)),
  List.forall_mem_cons.mpr ⟨sd_oGetR 113 53 7 6 26 RX6 TX6 8 rfl ⟨by decide, by decide⟩ rfl (by decide) rfl (fun w h => iw_113 w (uz_6 w h)) rfl (iw_113 _ zw343) (dk_113_0 (53, .getfield 26, 3) (List.mem_of_getElem? (i := 32) rfl)),
  List.forall_mem_cons.mpr ⟨sd_oLdI_n 113 56 2 2 rfl (dk_113_0 (56, .iload_n 2, 1) (List.mem_of_getElem? (i := 33) rfl)),
  List.forall_mem_cons.mpr ⟨sd_aaldA 113 57 (dk_113_0 (57, .aaload, 1) (List.mem_of_getElem? (i := 34) rfl)),
  List.forall_mem_cons.mpr ⟨sd_iconst 113 58 5 ⟨by decide, by decide⟩ (dk_113_0 (58, .iconst 5, 1) (List.mem_of_getElem? (i := 35) rfl)),
  List.forall_mem_cons.mpr ⟨sd_oLdR_n 113 59 0 0 rfl (dk_113_0 (59, .aload_n 0, 1) (List.mem_of_getElem? (i := 36) rfl)),
  List.forall_mem_cons.mpr ⟨sd_oLdI_n 113 60 2 2 rfl (dk_113_0 (60, .iload_n 2, 1) (List.mem_of_getElem? (i := 37) rfl)),
  List.forall_mem_cons.mpr ⟨sd_callV 113 61 110 1 4 147 7 [] (gdV hws_113 hws_110 zw446 zw447 zw448 zw362 zw445) hws_110 rfl (by decide +kernel) rfl rfl ⟨by decide +kernel, by decide +kernel, by decide +kernel⟩ ⟨by decide, by decide⟩ (catch_nil rfl) RX6 rfl TX6 8 rfl ⟨by decide, by decide⟩ (dk_113_0 (61, .invokevirtual 147, 3) (List.mem_of_getElem? (i := 38) rfl)),
  fun _ h => nomatch h⟩⟩⟩⟩⟩⟩⟩⟩⟩⟩⟩⟩⟩⟩⟩⟩⟩⟩⟩⟩⟩⟩⟩⟩⟩⟩⟩⟩⟩⟩⟩⟩⟩⟩⟩⟩⟩⟩⟩
def tb_113_1 : List (Nat × Op1) := [(64, oAStI), (65, oLdR 0 1), (66, oGetR 7 6), (69, oLdI 2 1), (70, oALdR 14), (71, oCI 6 2), (73, oLdR 0 1), (74, oGetR 7 6), (77, oLdI 2 1), (78, oALdR 14), (79, oCI 5 1), (80, oALdI 10), (81, oLdR 0 1), (82, oGetR 7 6), (85, oLdI 2 1), (86, oALdR 14), (87, oALen 10), (88, oAdd), (89, oCI 11 2), (91, oSub), (92, oAStI), (93, oInc 1 1), (96, oInc 2 1), (99, oGoto 4), (102, oLdR 0 1), (103, oGetR 7 0), (106, oCallV 46 0 3 6 []), (109, oLdI 1 1), (110, oCne 117), (113, oCI 1 1), (114, oGoto 118), (117, oCI 0 1), (118, oRetZ)]
theorem sm_113_1 : ∀ q ∈ tb_113_1, SM GwP MdP D A l 113 q.1 q.2 :=
  List.forall_mem_cons.mpr ⟨sd_iast 113 64 (dk_113_0 (64, .iastore, 1) (List.mem_of_getElem? (i := 39) rfl)),
  List.forall_mem_cons.mpr ⟨sd_oLdR_n 113 65 0 0 rfl (dk_113_1 (65, .aload_n 0, 1) (List.mem_of_getElem? (i := 0) rfl)),
  List.forall_mem_cons.mpr ⟨sd_oGetR 113 66 7 6 26 RX6 TX6 8 rfl ⟨by decide, by decide⟩ rfl (by decide) rfl (fun w h => iw_113 w (uz_6 w h)) rfl (iw_113 _ zw343) (dk_113_1 (66, .getfield 26, 3) (List.mem_of_getElem? (i := 1) rfl)),
  List.forall_mem_cons.mpr ⟨sd_oLdI_n 113 69 2 2 rfl (dk_113_1 (69, .iload_n 2, 1) (List.mem_of_getElem? (i := 2) rfl)),
  List.forall_mem_cons.mpr ⟨sd_aaldA 113 70 (dk_113_1 (70, .aaload, 1) (List.mem_of_getElem? (i := 3) rfl)),
  List.forall_mem_cons.mpr ⟨sd_bipush 113 71 6 ⟨by decide, by decide⟩ (by decide) (dk_113_1 (71, .bipush 6, 2) (List.mem_of_getElem? (i := 4) rfl)),
  List.forall_mem_cons.mpr ⟨sd_oLdR_n 113 73 0 0 rfl (dk_113_1 (73, .aload_n 0, 1) (List.mem_of_getElem? (i := 5) rfl)),
  List.forall_mem_cons.mpr ⟨sd_oGetR 113 74 7 6 26 RX6 TX6 8 rfl ⟨by decide, by decide⟩ rfl (by decide) rfl (fun w h => iw_113 w (uz_6 w h)) rfl (iw_113 _ zw343) (dk_113_1 (74, .getfield 26, 3) (List.mem_of_getElem? (i := 6) rfl)),
  List.forall_mem_cons.mpr ⟨sd_oLdI_n 113 77 2 2 rfl (dk_113_1 (77, .iload_n 2, 1) (List.mem_of_getElem? (i := 7) rfl)),
  List.forall_mem_cons.mpr ⟨sd_aaldA 113 78 (dk_113_1 (78, .aaload, 1) (List.mem_of_getElem? (i := 8) rfl)),
  List.forall_mem_cons.mpr ⟨sd_iconst 113 79 5 ⟨by decide, by decide⟩ (dk_113_1 (79, .iconst 5, 1) (List.mem_of_getElem? (i := 9) rfl)),
  List.forall_mem_cons.mpr ⟨sd_iald 113 80 (dk_113_1 (80, .iaload, 1) (List.mem_of_getElem? (i := 10) rfl)),
  List.forall_mem_cons.mpr ⟨sd_oLdR_n 113 81 0 0 rfl (dk_113_1 (81, .aload_n 0, 1) (List.mem_of_getElem? (i := 11) rfl)),
  List.forall_mem_cons.mpr ⟨sd_oGetR 113 82 7 6 26 RX6 TX6 8 rfl ⟨by decide, by decide⟩ rfl (by decide) rfl (fun w h => iw_113 w (uz_6 w h)) rfl (iw_113 _ zw343) (dk_113_1 (82, .getfield 26, 3) (List.mem_of_getElem? (i := 12) rfl)),
  List.forall_mem_cons.mpr ⟨sd_oLdI_n 113 85 2 2 rfl (dk_113_1 (85, .iload_n 2, 1) (List.mem_of_getElem? (i := 13) rfl)),
  List.forall_mem_cons.mpr ⟨sd_aaldA 113 86 (dk_113_1 (86, .aaload, 1) (List.mem_of_getElem? (i := 14) rfl)),
  List.forall_mem_cons.mpr ⟨sd_alen 113 87 10 ⟨by decide, by decide⟩ (dk_113_1 (87, .arraylength, 1) (List.mem_of_getElem? (i := 15) rfl)),
  List.forall_mem_cons.mpr ⟨sd_iadd 113 88 (dk_113_1 (88, .iadd, 1) (List.mem_of_getElem? (i := 16) rfl)),
  List.forall_mem_cons.mpr ⟨sd_bipush 113 89 11 ⟨by decide, by decide⟩ (by decide) (dk_113_1 (89, .bipush 11, 2) (List.mem_of_getElem? (i := 17) rfl)),
  List.forall_mem_cons.mpr ⟨sd_isub 113 91 (dk_113_1 (91, .isub, 1) (List.mem_of_getElem? (i := 18) rfl)),
  List.forall_mem_cons.mpr ⟨sd_iast 113 92 (dk_113_1 (92, .iastore, 1) (List.mem_of_getElem? (i := 19) rfl)),
  List.forall_mem_cons.mpr ⟨sd_iinc 113 93 1 1 (by decide) (dk_113_1 (93, .iinc 1 1, 3) (List.mem_of_getElem? (i := 20) rfl)),
  List.forall_mem_cons.mpr ⟨sd_iinc 113 96 2 1 (by decide) (dk_113_1 (96, .iinc 2 1, 3) (List.mem_of_getElem? (i := 21) rfl)),
  List.forall_mem_cons.mpr ⟨sd_goto 113 99 (-95) 4 (by decide) (dk_113_1 (99, .goto (-95), 3) (List.mem_of_getElem? (i := 22) rfl)),
  List.forall_mem_cons.mpr ⟨sd_oLdR_n 113 102 0 0 rfl (dk_113_1 (102, .aload_n 0, 1) (List.mem_of_getElem? (i := 23) rfl)),
  List.forall_mem_cons.mpr ⟨sd_oGetR 113 103 7 0 10 RX6 TX6 8 rfl ⟨by decide, by decide⟩ rfl (by decide) rfl (fun w h => iw_113 w (uz_6 w h)) rfl (iw_113 _ zw338) (dk_113_1 (103, .getfield 10, 3) (List.mem_of_getElem? (i := 24) rfl)),
  List.forall_mem_cons.mpr ⟨sd_callV 113 106 46 0 3 150 6 [] (gdV hws_113 hws_46 zw450 zw451 zw452 zw63 zw449) hws_46 rfl (by decide +kernel) rfl rfl ⟨by decide +kernel, by decide +kernel, by decide +kernel⟩ ⟨by decide, by decide⟩ (catch_nil rfl) RX5 rfl TX5 7 rfl ⟨by decide, by decide⟩ (dk_113_1 (106, .invokevirtual 150, 3) (List.mem_of_getElem? (i := 25) rfl)),
  List.forall_mem_cons.mpr ⟨sd_oLdI_n 113 109 1 1 rfl (dk_113_1 (109, .iload_n 1, 1) (List.mem_of_getElem? (i := 26) rfl)),
  List.forall_mem_cons.mpr ⟨sd_icmp_ne 113 110 7 117 (by decide) (dk_113_1 (110, .if_icmp .ne 7, 3) (List.mem_of_getElem? (i := 27) rfl)),
  List.forall_mem_cons.mpr ⟨sd_iconst 113 113 1 ⟨by decide, by decide⟩ (dk_113_1 (113, .iconst 1, 1) (List.mem_of_getElem? (i := 28) rfl)),
  List.forall_mem_cons.mpr ⟨sd_goto 113 114 4 118 (by decide) (dk_113_1 (114, .goto 4, 3) (List.mem_of_getElem? (i := 29) rfl)),
  List.forall_mem_cons.mpr ⟨sd_iconst 113 117 0 ⟨by decide, by decide⟩ (dk_113_1 (117, .iconst 0, 1) (List.mem_of_getElem? (i := 30) rfl)),
  List.forall_mem_cons.mpr ⟨sd_zret 113 118 rfl (dk_113_1 (118, .ireturn, 1) (List.mem_of_getElem? (i := 31) rfl)),
  fun _ h => nomatch h⟩⟩⟩⟩⟩⟩⟩⟩⟩⟩⟩⟩⟩⟩⟩⟩⟩⟩⟩⟩⟩⟩⟩⟩⟩⟩⟩⟩⟩⟩⟩⟩⟩
def tb_113 : List (List (Nat × Op1)) := [tb_113_0, tb_113_1]
theorem sm_113 : ∀ t ∈ tb_113, ∀ q ∈ t, SM GwP MdP D A l 113 q.1 q.2 := List.forall_mem_cons.mpr ⟨sm_113_0, List.forall_mem_cons.mpr ⟨sm_113_1, fun _ h => nomatch h⟩⟩
-- 114: MarginaliaLaw$Page.found()Z
def dl_114_0 : List (Nat × Instr × Nat) := [(0, .iconst 0, 1), (1, .istore_n 1, 1), (2, .iload_n 1, 1), (3, .iconst 5, 1), (4, .if_icmp .ge 40, 3), (7, .aload_n 0, 1), (8, .iload_n 1, 1), (9, .ifCond .ne 7, 3), (12, .iconst 4, 1), (13, .goto 17, 3), (16, .iload_n 1, 1), (17, .iconst 1, 1), (18, .if_icmp .ne 7, 3), (21, .iconst 3, 1), (22, .goto 8, 3), (25, .aload_n 0, 1), (26, .iconst 5, 1), (27, .invokevirtual 61, 3), (30, .invokevirtual 153, 3), (33, .ifCond .ne 5, 3), (36, .iconst 0, 1), (37, .ireturn, 1), (38, .iinc 1 1, 3), (41, .goto (-39), 3), (44, .iconst 0, 1), (45, .istore_n 1, 1), (46, .iload_n 1, 1), (47, .iconst 5, 1), (48, .if_icmp .ge 18, 3), (51, .aload_n 0, 1), (52, .invokevirtual 156, 3), (55, .ifCond .ne 5, 3), (58, .iconst 0, 1), (59, .ireturn, 1), (60, .iinc 1 1, 3), (63, .goto (-17), 3), (66, .aload_n 0, 1), (67, .getfield 10, 3), (70, .iconst 0, 1), (71, .iconst 0, 1)]
theorem dk_114_0 : ∀ q ∈ dl_114_0, decode (mCod (MdP 114)) q.1 = .ok q.2 := by
  rw [show mCod (MdP 114) = cX6_found_ from rfl]
  decide +kernel
def dl_114_1 : List (Nat × Instr × Nat) := [(72, .bipush 30, 2), (74, .iconst 0, 1), (75, .invokevirtual 83, 3), (78, .aload_n 0, 1), (79, .invokevirtual 68, 3), (82, .arraylength, 1), (83, .bipush 30, 2), (85, .iadd, 1), (86, .if_icmp .eq 5, 3), (89, .iconst 0, 1), (90, .ireturn, 1), (91, .aload_n 0, 1), (92, .iconst 0, 1), (93, .bipush 30, 2), (95, .iconst 0, 1), (96, .invokevirtual 87, 3), (99, .iconst 0, 1), (100, .istore_n 1, 1), (101, .iload_n 1, 1), (102, .bipush 6, 2), (104, .if_icmp .ge 25, 3), (107, .aload_n 0, 1), (108, .invokevirtual 159, 3), (111, .ifCond .eq 10, 3), (114, .aload_n 0, 1), (115, .invokevirtual 161, 3), (118, .ifCond .ne 5, 3), (121, .iconst 0, 1), (122, .ireturn, 1), (123, .iinc 1 1, 3), (126, .goto (-25), 3), (129, .iconst 1, 1), (130, .ireturn, 1)]
theorem dk_114_1 : ∀ q ∈ dl_114_1, decode (mCod (MdP 114)) q.1 = .ok q.2 := by
  rw [show mCod (MdP 114) = cX6_found_ from rfl]
  decide +kernel
def tb_114_0 : List (Nat × Op1) := [(0, oCI 0 1), (1, oStI 1 1), (2, oLdI 1 1), (3, oCI 5 1), (4, oCge 44), (7, oLdR 0 1), (8, oLdI 1 1), (9, oZne 16), (12, oCI 4 1), (13, oGoto 30), (16, oLdI 1 1), (17, oCI 1 1), (18, oCne 25), (21, oCI 3 1), (22, oGoto 30), (25, oLdR 0 1), (26, oCI 5 1), (27, oCallV 90 1 3 7 []), (30, oCallV 94 1 3 7 []), (33, oZne 38), (36, oCI 0 1), (37, oRetZ), (38, oInc 1 1), (41, oGoto 2), (44, oCI 0 1), (45, oStI 1 1), (46, oLdI 1 1), (47, oCI 5 1), (48, oCge 66), (51, oLdR 0 1), (52, oCallV 98 0 7 7 []), (55, oZne 60), (58, oCI 0 1), (59, oRetZ), (60, oInc 1 1), (63, oGoto 46)]
theorem sm_114_0 : ∀ q ∈ tb_114_0, SM GwP MdP D A l 114 q.1 q.2 :=
  List.forall_mem_cons.mpr ⟨sd_iconst 114 0 0 ⟨by decide, by decide⟩ (dk_114_0 (0, .iconst 0, 1) (List.mem_of_getElem? (i := 0) rfl)),
  List.forall_mem_cons.mpr ⟨sd_oStI_n 114 1 1 1 rfl (by decide) (dk_114_0 (1, .istore_n 1, 1) (List.mem_of_getElem? (i := 1) rfl)),
  List.forall_mem_cons.mpr ⟨sd_oLdI_n 114 2 1 1 rfl (dk_114_0 (2, .iload_n 1, 1) (List.mem_of_getElem? (i := 2) rfl)),
  List.forall_mem_cons.mpr ⟨sd_iconst 114 3 5 ⟨by decide, by decide⟩ (dk_114_0 (3, .iconst 5, 1) (List.mem_of_getElem? (i := 3) rfl)),
  List.forall_mem_cons.mpr ⟨sd_icmp_ge 114 4 40 44 (by decide) (dk_114_0 (4, .if_icmp .ge 40, 3) (List.mem_of_getElem? (i := 4) rfl)),
  List.forall_mem_cons.mpr ⟨sd_oLdR_n 114 7 0 0 rfl (dk_114_0 (7, .aload_n 0, 1) (List.mem_of_getElem? (i := 5) rfl)),
  List.forall_mem_cons.mpr ⟨sd_oLdI_n 114 8 1 1 rfl (dk_114_0 (8, .iload_n 1, 1) (List.mem_of_getElem? (i := 6) rfl)),
  List.forall_mem_cons.mpr ⟨sd_if_ne 114 9 7 16 (by decide) (dk_114_0 (9, .ifCond .ne 7, 3) (List.mem_of_getElem? (i := 7) rfl)),
  List.forall_mem_cons.mpr ⟨sd_iconst 114 12 4 ⟨by decide, by decide⟩ (dk_114_0 (12, .iconst 4, 1) (List.mem_of_getElem? (i := 8) rfl)),
  List.forall_mem_cons.mpr ⟨sd_goto 114 13 17 30 (by decide) (dk_114_0 (13, .goto 17, 3) (List.mem_of_getElem? (i := 9) rfl)),
  List.forall_mem_cons.mpr ⟨sd_oLdI_n 114 16 1 1 rfl (dk_114_0 (16, .iload_n 1, 1) (List.mem_of_getElem? (i := 10) rfl)),
  List.forall_mem_cons.mpr ⟨sd_iconst 114 17 1 ⟨by decide, by decide⟩ (dk_114_0 (17, .iconst 1, 1) (List.mem_of_getElem? (i := 11) rfl)),
  List.forall_mem_cons.mpr ⟨sd_icmp_ne 114 18 7 25 (by decide) (dk_114_0 (18, .if_icmp .ne 7, 3) (List.mem_of_getElem? (i := 12) rfl)),
  List.forall_mem_cons.mpr ⟨sd_iconst 114 21 3 ⟨by decide, by decide⟩ (dk_114_0 (21, .iconst 3, 1) (List.mem_of_getElem? (i := 13) rfl)),
  List.forall_mem_cons.mpr ⟨sd_goto 114 22 8 30 (by decide) (dk_114_0 (22, .goto 8, 3) (List.mem_of_getElem? (i := 14) rfl)),
  List.forall_mem_cons.mpr ⟨sd_oLdR_n 114 25 0 0 rfl (dk_114_0 (25, .aload_n 0, 1) (List.mem_of_getElem? (i := 15) rfl)),
  List.forall_mem_cons.mpr ⟨sd_iconst 114 26 5 ⟨by decide, by decide⟩ (dk_114_0 (26, .iconst 5, 1) (List.mem_of_getElem? (i := 16) rfl)),
  List.forall_mem_cons.mpr ⟨sd_callV 114 27 90 1 3 61 7 [] (gdV hws_114 hws_90 zw359 zw360 zw361 zw362 zw358) hws_90 rfl (by decide +kernel) rfl rfl ⟨by decide +kernel, by decide +kernel, by decide +kernel⟩ ⟨by decide, by decide⟩ (catch_nil rfl) RX6 rfl TX6 8 rfl ⟨by decide, by decide⟩ (dk_114_0 (27, .invokevirtual 61, 3) (List.mem_of_getElem? (i := 17) rfl)),
  List.forall_mem_cons.mpr ⟨sd_callV 114 30 94 1 3 153 7 [] (gdV hws_114 hws_94 zw454 zw455 zw456 zw362 zw453) hws_94 rfl (by decide +kernel) rfl rfl ⟨by decide +kernel, by decide +kernel, by decide +kernel⟩ ⟨by decide, by decide⟩ (catch_nil rfl) RX6 rfl TX6 8 rfl ⟨by decide, by decide⟩ (dk_114_0 (30, .invokevirtual 153, 3) (List.mem_of_getElem? (i := 18) rfl)),
  List.forall_mem_cons.mpr ⟨sd_if_ne 114 33 5 38 (by decide) (dk_114_0 (33, .ifCond .ne 5, 3) (List.mem_of_getElem? (i := 19) rfl)),
  List.forall_mem_cons.mpr ⟨sd_iconst 114 36 0 ⟨by decide, by decide⟩ (dk_114_0 (36, .iconst 0, 1) (List.mem_of_getElem? (i := 20) rfl)),
  List.forall_mem_cons.mpr ⟨sd_zret 114 37 rfl (dk_114_0 (37, .ireturn, 1) (List.mem_of_getElem? (i := 21) rfl)),
  List.forall_mem_cons.mpr ⟨sd_iinc 114 38 1 1 (by decide) (dk_114_0 (38, .iinc 1 1, 3) (List.mem_of_getElem? (i := 22) rfl)),
  List.forall_mem_cons.mpr ⟨sd_goto 114 41 (-39) 2 (by decide) (dk_114_0 (41, .goto (-39), 3) (List.mem_of_getElem? (i := 23) rfl)),
  List.forall_mem_cons.mpr ⟨sd_iconst 114 44 0 ⟨by decide, by decide⟩ (dk_114_0 (44, .iconst 0, 1) (List.mem_of_getElem? (i := 24) rfl)),
  List.forall_mem_cons.mpr ⟨sd_oStI_n 114 45 1 1 rfl (by decide) (dk_114_0 (45, .istore_n 1, 1) (List.mem_of_getElem? (i := 25) rfl)),
  List.forall_mem_cons.mpr ⟨sd_oLdI_n 114 46 1 1 rfl (dk_114_0 (46, .iload_n 1, 1) (List.mem_of_getElem? (i := 26) rfl)),
  List.forall_mem_cons.mpr ⟨sd_iconst 114 47 5 ⟨by decide, by decide⟩ (dk_114_0 (47, .iconst 5, 1) (List.mem_of_getElem? (i := 27) rfl)),
  List.forall_mem_cons.mpr ⟨sd_icmp_ge 114 48 18 66 (by decide) (dk_114_0 (48, .if_icmp .ge 18, 3) (List.mem_of_getElem? (i := 28) rfl)),
  List.forall_mem_cons.mpr ⟨sd_oLdR_n 114 51 0 0 rfl (dk_114_0 (51, .aload_n 0, 1) (List.mem_of_getElem? (i := 29) rfl)),
  List.forall_mem_cons.mpr ⟨sd_callVW 114 52 98 0 7 156 7 [] (gdV hws_114 hws_98 zw458 zw459 zw460 zw362 zw457) hws_98 (by decide +kernel) rfl rfl ⟨by decide +kernel, by decide +kernel, by decide +kernel⟩ ⟨by decide, by decide⟩ (catch_nil rfl) RX6 rfl TX6 8 rfl ⟨by decide, by decide⟩ (dk_114_0 (52, .invokevirtual 156, 3) (List.mem_of_getElem? (i := 30) rfl)),
  List.forall_mem_cons.mpr ⟨sd_if_ne 114 55 5 60 (by decide) (dk_114_0 (55, .ifCond .ne 5, 3) (List.mem_of_getElem? (i := 31) rfl)),
  List.forall_mem_cons.mpr ⟨sd_iconst 114 58 0 ⟨by decide, by decide⟩ (dk_114_0 (58, .iconst 0, 1) (List.mem_of_getElem? (i := 32) rfl)),
  List.forall_mem_cons.mpr ⟨sd_zret 114 59 rfl (dk_114_0 (59, .ireturn, 1) (List.mem_of_getElem? (i := 33) rfl)),
  List.forall_mem_cons.mpr ⟨sd_iinc 114 60 1 1 (by decide) (dk_114_0 (60, .iinc 1 1, 3) (List.mem_of_getElem? (i := 34) rfl)),
  List.forall_mem_cons.mpr ⟨sd_goto 114 63 (-17) 46 (by decide) (dk_114_0 (63, .goto (-17), 3) (List.mem_of_getElem? (i := 35) rfl)),
  fun _ h => nomatch h⟩⟩⟩⟩⟩⟩⟩⟩⟩⟩⟩⟩⟩⟩⟩⟩⟩⟩⟩⟩⟩⟩⟩⟩⟩⟩⟩⟩⟩⟩⟩⟩⟩⟩⟩⟩
def tb_114_1 : List (Nat × Op1) := [(66, oLdR 0 1), (67, oGetR 7 0), (70, oCI 0 1), (71, oCI 0 1), (72, oCI 30 2), (74, oCI 0 1), (75, oCallV 34 4 5 6 []), (78, oLdR 0 1), (79, oCallV 92 0 1 7 []), (82, oALen 14), (83, oCI 30 2), (85, oAdd), (86, oCeq 91), (89, oCI 0 1), (90, oRetZ), (91, oLdR 0 1), (92, oCI 0 1), (93, oCI 30 2), (95, oCI 0 1), (96, oCallV 96 3 9 7 []), (99, oCI 0 1), (100, oStI 1 1), (101, oLdI 1 1), (102, oCI 6 2), (104, oCge 129), (107, oLdR 0 1), (108, oCallV 102 0 11 7 []), (111, oZeq 121), (114, oLdR 0 1), (115, oCallV 104 0 7 7 []), (118, oZne 123), (121, oCI 0 1), (122, oRetZ), (123, oInc 1 1), (126, oGoto 101)]
theorem sm_114_1 : ∀ q ∈ tb_114_1, SM GwP MdP D A l 114 q.1 q.2 :=
  List.forall_mem_cons.mpr ⟨sd_oLdR_n 114 66 0 0 rfl (dk_114_0 (66, .aload_n 0, 1) (List.mem_of_getElem? (i := 36) rfl)),
  List.forall_mem_cons.mpr ⟨sd_oGetR 114 67 7 0 10 RX6 TX6 8 rfl ⟨by decide, by decide⟩ rfl (by decide) rfl (fun w h => iw_114 w (uz_6 w h)) rfl (iw_114 _ zw338) (dk_114_0 (67, .getfield 10, 3) (List.mem_of_getElem? (i := 37) rfl)),
  List.forall_mem_cons.mpr ⟨sd_iconst 114 70 0 ⟨by decide, by decide⟩ (dk_114_0 (70, .iconst 0, 1) (List.mem_of_getElem? (i := 38) rfl)),
  List.forall_mem_cons.mpr ⟨sd_iconst 114 71 0 ⟨by decide, by decide⟩ (dk_114_0 (71, .iconst 0, 1) (List.mem_of_getElem? (i := 39) rfl)),
  List.forall_mem_cons.mpr ⟨sd_bipush 114 72 30 ⟨by decide, by decide⟩ (by decide) (dk_114_1 (72, .bipush 30, 2) (List.mem_of_getElem? (i := 0) rfl)),
  List.forall_mem_cons.mpr ⟨sd_iconst 114 74 0 ⟨by decide, by decide⟩ (dk_114_1 (74, .iconst 0, 1) (List.mem_of_getElem? (i := 1) rfl)),
  List.forall_mem_cons.mpr ⟨sd_callV 114 75 34 4 5 83 6 [] (gdV hws_114 hws_34 zw381 zw382 zw383 zw63 zw380) hws_34 rfl (by decide +kernel) rfl rfl ⟨by decide +kernel, by decide +kernel, by decide +kernel⟩ ⟨by decide, by decide⟩ (catch_nil rfl) RX5 rfl TX5 7 rfl ⟨by decide, by decide⟩ (dk_114_1 (75, .invokevirtual 83, 3) (List.mem_of_getElem? (i := 2) rfl)),
  List.forall_mem_cons.mpr ⟨sd_oLdR_n 114 78 0 0 rfl (dk_114_1 (78, .aload_n 0, 1) (List.mem_of_getElem? (i := 3) rfl)),
  List.forall_mem_cons.mpr ⟨sd_callV 114 79 92 0 1 68 7 [] (gdV hws_114 hws_92 zw368 zw369 zw370 zw362 zw367) hws_92 rfl (by decide +kernel) rfl rfl ⟨by decide +kernel, by decide +kernel, by decide +kernel⟩ ⟨by decide, by decide⟩ (catch_nil rfl) RX6 rfl TX6 8 rfl ⟨by decide, by decide⟩ (dk_114_1 (79, .invokevirtual 68, 3) (List.mem_of_getElem? (i := 4) rfl)),
  List.forall_mem_cons.mpr ⟨sd_alen 114 82 14 ⟨by decide, by decide⟩ (dk_114_1 (82, .arraylength, 1) (List.mem_of_getElem? (i := 5) rfl)),
  List.forall_mem_cons.mpr ⟨sd_bipush 114 83 30 ⟨by decide, by decide⟩ (by decide) (dk_114_1 (83, .bipush 30, 2) (List.mem_of_getElem? (i := 6) rfl)),
  List.forall_mem_cons.mpr ⟨sd_iadd 114 85 (dk_114_1 (85, .iadd, 1) (List.mem_of_getElem? (i := 7) rfl)),
  List.forall_mem_cons.mpr ⟨sd_icmp_eq 114 86 5 91 (by decide) (dk_114_1 (86, .if_icmp .eq 5, 3) (List.mem_of_getElem? (i := 8) rfl)),
  List.forall_mem_cons.mpr ⟨sd_iconst 114 89 0 ⟨by decide, by decide⟩ (dk_114_1 (89, .iconst 0, 1) (List.mem_of_getElem? (i := 9) rfl)),
  List.forall_mem_cons.mpr ⟨sd_zret 114 90 rfl (dk_114_1 (90, .ireturn, 1) (List.mem_of_getElem? (i := 10) rfl)),
  List.forall_mem_cons.mpr ⟨sd_oLdR_n 114 91 0 0 rfl (dk_114_1 (91, .aload_n 0, 1) (List.mem_of_getElem? (i := 11) rfl)),
  List.forall_mem_cons.mpr ⟨sd_iconst 114 92 0 ⟨by decide, by decide⟩ (dk_114_1 (92, .iconst 0, 1) (List.mem_of_getElem? (i := 12) rfl)),
  List.forall_mem_cons.mpr ⟨sd_bipush 114 93 30 ⟨by decide, by decide⟩ (by decide) (dk_114_1 (93, .bipush 30, 2) (List.mem_of_getElem? (i := 13) rfl)),
  List.forall_mem_cons.mpr ⟨sd_iconst 114 95 0 ⟨by decide, by decide⟩ (dk_114_1 (95, .iconst 0, 1) (List.mem_of_getElem? (i := 14) rfl)),
  List.forall_mem_cons.mpr ⟨sd_callV 114 96 96 3 9 87 7 [] (gdV hws_114 hws_96 zw385 zw386 zw387 zw362 zw384) hws_96 rfl (by decide +kernel) rfl rfl ⟨by decide +kernel, by decide +kernel, by decide +kernel⟩ ⟨by decide, by decide⟩ (catch_nil rfl) RX6 rfl TX6 8 rfl ⟨by decide, by decide⟩ (dk_114_1 (96, .invokevirtual 87, 3) (List.mem_of_getElem? (i := 15) rfl)),
  List.forall_mem_cons.mpr ⟨sd_iconst 114 99 0 ⟨by decide, by decide⟩ (dk_114_1 (99, .iconst 0, 1) (List.mem_of_getElem? (i := 16) rfl)),
  List.forall_mem_cons.mpr ⟨sd_oStI_n 114 100 1 1 rfl (by decide) (dk_114_1 (100, .istore_n 1, 1) (List.mem_of_getElem? (i := 17) rfl)),
  List.forall_mem_cons.mpr ⟨sd_oLdI_n 114 101 1 1 rfl (dk_114_1 (101, .iload_n 1, 1) (List.mem_of_getElem? (i := 18) rfl)),
  List.forall_mem_cons.mpr ⟨sd_bipush 114 102 6 ⟨by decide, by decide⟩ (by decide) (dk_114_1 (102, .bipush 6, 2) (List.mem_of_getElem? (i := 19) rfl)),
  List.forall_mem_cons.mpr ⟨sd_icmp_ge 114 104 25 129 (by decide) (dk_114_1 (104, .if_icmp .ge 25, 3) (List.mem_of_getElem? (i := 20) rfl)),
  List.forall_mem_cons.mpr ⟨sd_oLdR_n 114 107 0 0 rfl (dk_114_1 (107, .aload_n 0, 1) (List.mem_of_getElem? (i := 21) rfl)),
  List.forall_mem_cons.mpr ⟨sd_callVW 114 108 102 0 11 159 7 [] (gdV hws_114 hws_102 zw462 zw463 zw464 zw362 zw461) hws_102 (by decide +kernel) rfl rfl ⟨by decide +kernel, by decide +kernel, by decide +kernel⟩ ⟨by decide, by decide⟩ (catch_nil rfl) RX6 rfl TX6 8 rfl ⟨by decide, by decide⟩ (dk_114_1 (108, .invokevirtual 159, 3) (List.mem_of_getElem? (i := 22) rfl)),
  List.forall_mem_cons.mpr ⟨sd_if_eq 114 111 10 121 (by decide) (dk_114_1 (111, .ifCond .eq 10, 3) (List.mem_of_getElem? (i := 23) rfl)),
  List.forall_mem_cons.mpr ⟨sd_oLdR_n 114 114 0 0 rfl (dk_114_1 (114, .aload_n 0, 1) (List.mem_of_getElem? (i := 24) rfl)),
  List.forall_mem_cons.mpr ⟨sd_callVW 114 115 104 0 7 161 7 [] (gdV hws_114 hws_104 zw466 zw467 zw468 zw362 zw465) hws_104 (by decide +kernel) rfl rfl ⟨by decide +kernel, by decide +kernel, by decide +kernel⟩ ⟨by decide, by decide⟩ (catch_nil rfl) RX6 rfl TX6 8 rfl ⟨by decide, by decide⟩ (dk_114_1 (115, .invokevirtual 161, 3) (List.mem_of_getElem? (i := 25) rfl)),
  List.forall_mem_cons.mpr ⟨sd_if_ne 114 118 5 123 (by decide) (dk_114_1 (118, .ifCond .ne 5, 3) (List.mem_of_getElem? (i := 26) rfl)),
  List.forall_mem_cons.mpr ⟨sd_iconst 114 121 0 ⟨by decide, by decide⟩ (dk_114_1 (121, .iconst 0, 1) (List.mem_of_getElem? (i := 27) rfl)),
  List.forall_mem_cons.mpr ⟨sd_zret 114 122 rfl (dk_114_1 (122, .ireturn, 1) (List.mem_of_getElem? (i := 28) rfl)),
  List.forall_mem_cons.mpr ⟨sd_iinc 114 123 1 1 (by decide) (dk_114_1 (123, .iinc 1 1, 3) (List.mem_of_getElem? (i := 29) rfl)),
  List.forall_mem_cons.mpr ⟨sd_goto 114 126 (-25) 101 (by decide) (dk_114_1 (126, .goto (-25), 3) (List.mem_of_getElem? (i := 30) rfl)),
  fun _ h => nomatch h⟩⟩⟩⟩⟩⟩⟩⟩⟩⟩⟩⟩⟩⟩⟩⟩⟩⟩⟩⟩⟩⟩⟩⟩⟩⟩⟩⟩⟩⟩⟩⟩⟩⟩⟩
def tb_114_2 : List (Nat × Op1) := [(129, oCI 1 1), (130, oRetZ)]
theorem sm_114_2 : ∀ q ∈ tb_114_2, SM GwP MdP D A l 114 q.1 q.2 :=
  List.forall_mem_cons.mpr ⟨sd_iconst 114 129 1 ⟨by decide, by decide⟩ (dk_114_1 (129, .iconst 1, 1) (List.mem_of_getElem? (i := 31) rfl)),
  List.forall_mem_cons.mpr ⟨sd_zret 114 130 rfl (dk_114_1 (130, .ireturn, 1) (List.mem_of_getElem? (i := 32) rfl)),
  fun _ h => nomatch h⟩⟩
def tb_114 : List (List (Nat × Op1)) := [tb_114_0, tb_114_1, tb_114_2]
theorem sm_114 : ∀ t ∈ tb_114, ∀ q ∈ t, SM GwP MdP D A l 114 q.1 q.2 := List.forall_mem_cons.mpr ⟨sm_114_0, List.forall_mem_cons.mpr ⟨sm_114_1, List.forall_mem_cons.mpr ⟨sm_114_2, fun _ h => nomatch h⟩⟩⟩
-- 115: MarginaliaLaw$Page.act()Z
def dl_115_0 : List (Nat × Instr × Nat) := [(0, .aload_n 0, 1), (1, .bipush 16, 2), (3, .invokevirtual 61, 3), (6, .tableswitch 139 0 14 #[74, 99, 99, 99, 104, 104, 109, 109, 114, 114, 119, 124, 124, 129, 134], 74), (80, .aload_n 0, 1), (81, .iconst 2, 1), (82, .invokevirtual 61, 3), (85, .ifCond .ne 10, 3), (88, .aload_n 0, 1), (89, .invokevirtual 163, 3), (92, .goto 12, 3), (95, .aload_n 0, 1), (96, .aload_n 0, 1), (97, .iconst 5, 1), (98, .invokevirtual 61, 3), (101, .invokevirtual 153, 3), (104, .ireturn, 1), (105, .aload_n 0, 1), (106, .invokevirtual 156, 3), (109, .ireturn, 1), (110, .aload_n 0, 1), (111, .invokevirtual 165, 3), (114, .ireturn, 1), (115, .aload_n 0, 1), (116, .invokevirtual 159, 3), (119, .ireturn, 1), (120, .aload_n 0, 1), (121, .invokevirtual 161, 3), (124, .ireturn, 1), (125, .aload_n 0, 1), (126, .invokevirtual 167, 3), (129, .ireturn, 1), (130, .aload_n 0, 1), (131, .invokevirtual 169, 3), (134, .ireturn, 1), (135, .aload_n 0, 1), (136, .invokevirtual 171, 3), (139, .ireturn, 1), (140, .aload_n 0, 1), (141, .invokevirtual 173, 3)]
theorem dk_115_0 : ∀ q ∈ dl_115_0, decode (mCod (MdP 115)) q.1 = .ok q.2 := by
  rw [show mCod (MdP 115) = cX6_act from rfl]
  decide +kernel
def dl_115_1 : List (Nat × Instr × Nat) := [(144, .ireturn, 1), (145, .aload_n 0, 1), (146, .invokevirtual 175, 3), (149, .ireturn, 1)]
theorem dk_115_1 : ∀ q ∈ dl_115_1, decode (mCod (MdP 115)) q.1 = .ok q.2 := by
  rw [show mCod (MdP 115) = cX6_act from rfl]
  decide +kernel
def tb_115_0 : List (Nat × Op1) := [(0, oLdR 0 1), (1, oCI 16 2), (3, oCallV 90 1 3 7 []), (6, oSw 0 [80, 105, 105, 105, 110, 110, 115, 115, 120, 120, 125, 130, 130, 135, 140] 145)]
theorem sm_115_0 : ∀ q ∈ tb_115_0, SM GwP MdP D A l 115 q.1 q.2 :=
  List.forall_mem_cons.mpr ⟨sd_oLdR_n 115 0 0 0 rfl (dk_115_0 (0, .aload_n 0, 1) (List.mem_of_getElem? (i := 0) rfl)),
  List.forall_mem_cons.mpr ⟨sd_bipush 115 1 16 ⟨by decide, by decide⟩ (by decide) (dk_115_0 (1, .bipush 16, 2) (List.mem_of_getElem? (i := 1) rfl)),
  List.forall_mem_cons.mpr ⟨sd_callV 115 3 90 1 3 61 7 [] (gdV hws_115 hws_90 zw359 zw360 zw361 zw362 zw358) hws_90 rfl (by decide +kernel) rfl rfl ⟨by decide +kernel, by decide +kernel, by decide +kernel⟩ ⟨by decide, by decide⟩ (catch_nil rfl) RX6 rfl TX6 8 rfl ⟨by decide, by decide⟩ (dk_115_0 (3, .invokevirtual 61, 3) (List.mem_of_getElem? (i := 2) rfl)),
  List.forall_mem_cons.mpr ⟨sd_tableswitch 115 6 139 0 14 #[74, 99, 99, 99, 104, 104, 109, 109, 114, 114, 119, 124, 124, 129, 134] 74 [80, 105, 105, 105, 110, 110, 115, 115, 120, 120, 125, 130, 130, 135, 140] 145 (by decide) (by decide) (by decide) (dk_115_0 (6, .tableswitch 139 0 14 #[74, 99, 99, 99, 104, 104, 109, 109, 114, 114, 119, 124, 124, 129, 134], 74) (List.mem_of_getElem? (i := 3) rfl)),
  fun _ h => nomatch h⟩⟩⟩⟩
def tb_115_1 : List (Nat × Op1) := [(80, oLdR 0 1), (81, oCI 2 1), (82, oCallV 90 1 3 7 []), (85, oZne 95), (88, oLdR 0 1), (89, oCallV 95 0 3 7 []), (92, oGoto 104), (95, oLdR 0 1), (96, oLdR 0 1), (97, oCI 5 1), (98, oCallV 90 1 3 7 []), (101, oCallV 94 1 3 7 []), (104, oRetZ), (105, oLdR 0 1), (106, oCallV 98 0 7 7 []), (109, oRetZ), (110, oLdR 0 1), (111, oCallV 99 0 6 7 []), (114, oRetZ), (115, oLdR 0 1), (116, oCallV 102 0 11 7 []), (119, oRetZ), (120, oLdR 0 1), (121, oCallV 104 0 7 7 []), (124, oRetZ), (125, oLdR 0 1), (126, oCallV 105 0 7 7 [])]
theorem sm_115_1 : ∀ q ∈ tb_115_1, SM GwP MdP D A l 115 q.1 q.2 :=
  List.forall_mem_cons.mpr ⟨sd_oLdR_n 115 80 0 0 rfl (dk_115_0 (80, .aload_n 0, 1) (List.mem_of_getElem? (i := 4) rfl)),
  List.forall_mem_cons.mpr ⟨sd_iconst 115 81 2 ⟨by decide, by decide⟩ (dk_115_0 (81, .iconst 2, 1) (List.mem_of_getElem? (i := 5) rfl)),
  List.forall_mem_cons.mpr ⟨sd_callV 115 82 90 1 3 61 7 [] (gdV hws_115 hws_90 zw359 zw360 zw361 zw362 zw358) hws_90 rfl (by decide +kernel) rfl rfl ⟨by decide +kernel, by decide +kernel, by decide +kernel⟩ ⟨by decide, by decide⟩ (catch_nil rfl) RX6 rfl TX6 8 rfl ⟨by decide, by decide⟩ (dk_115_0 (82, .invokevirtual 61, 3) (List.mem_of_getElem? (i := 6) rfl)),
  List.forall_mem_cons.mpr ⟨sd_if_ne 115 85 10 95 (by decide) (dk_115_0 (85, .ifCond .ne 10, 3) (List.mem_of_getElem? (i := 7) rfl)),
  List.forall_mem_cons.mpr ⟨sd_oLdR_n 115 88 0 0 rfl (dk_115_0 (88, .aload_n 0, 1) (List.mem_of_getElem? (i := 8) rfl)),
  List.forall_mem_cons.mpr ⟨sd_callV 115 89 95 0 3 163 7 [] (gdV hws_115 hws_95 zw470 zw471 zw472 zw362 zw469) hws_95 rfl (by decide +kernel) rfl rfl ⟨by decide +kernel, by decide +kernel, by decide +kernel⟩ ⟨by decide, by decide⟩ (catch_nil rfl) RX6 rfl TX6 8 rfl ⟨by decide, by decide⟩ (dk_115_0 (89, .invokevirtual 163, 3) (List.mem_of_getElem? (i := 9) rfl)),
  List.forall_mem_cons.mpr ⟨sd_goto 115 92 12 104 (by decide) (dk_115_0 (92, .goto 12, 3) (List.mem_of_getElem? (i := 10) rfl)),
  List.forall_mem_cons.mpr ⟨sd_oLdR_n 115 95 0 0 rfl (dk_115_0 (95, .aload_n 0, 1) (List.mem_of_getElem? (i := 11) rfl)),
  List.forall_mem_cons.mpr ⟨sd_oLdR_n 115 96 0 0 rfl (dk_115_0 (96, .aload_n 0, 1) (List.mem_of_getElem? (i := 12) rfl)),
  List.forall_mem_cons.mpr ⟨sd_iconst 115 97 5 ⟨by decide, by decide⟩ (dk_115_0 (97, .iconst 5, 1) (List.mem_of_getElem? (i := 13) rfl)),
  List.forall_mem_cons.mpr ⟨sd_callV 115 98 90 1 3 61 7 [] (gdV hws_115 hws_90 zw359 zw360 zw361 zw362 zw358) hws_90 rfl (by decide +kernel) rfl rfl ⟨by decide +kernel, by decide +kernel, by decide +kernel⟩ ⟨by decide, by decide⟩ (catch_nil rfl) RX6 rfl TX6 8 rfl ⟨by decide, by decide⟩ (dk_115_0 (98, .invokevirtual 61, 3) (List.mem_of_getElem? (i := 14) rfl)),
  List.forall_mem_cons.mpr ⟨sd_callV 115 101 94 1 3 153 7 [] (gdV hws_115 hws_94 zw454 zw455 zw456 zw362 zw453) hws_94 rfl (by decide +kernel) rfl rfl ⟨by decide +kernel, by decide +kernel, by decide +kernel⟩ ⟨by decide, by decide⟩ (catch_nil rfl) RX6 rfl TX6 8 rfl ⟨by decide, by decide⟩ (dk_115_0 (101, .invokevirtual 153, 3) (List.mem_of_getElem? (i := 15) rfl)),
  List.forall_mem_cons.mpr ⟨sd_zret 115 104 rfl (dk_115_0 (104, .ireturn, 1) (List.mem_of_getElem? (i := 16) rfl)),
  List.forall_mem_cons.mpr ⟨sd_oLdR_n 115 105 0 0 rfl (dk_115_0 (105, .aload_n 0, 1) (List.mem_of_getElem? (i := 17) rfl)),
  List.forall_mem_cons.mpr ⟨sd_callVW 115 106 98 0 7 156 7 [] (gdV hws_115 hws_98 zw458 zw459 zw460 zw362 zw457) hws_98 (by decide +kernel) rfl rfl ⟨by decide +kernel, by decide +kernel, by decide +kernel⟩ ⟨by decide, by decide⟩ (catch_nil rfl) RX6 rfl TX6 8 rfl ⟨by decide, by decide⟩ (dk_115_0 (106, .invokevirtual 156, 3) (List.mem_of_getElem? (i := 18) rfl)),
  List.forall_mem_cons.mpr ⟨sd_zret 115 109 rfl (dk_115_0 (109, .ireturn, 1) (List.mem_of_getElem? (i := 19) rfl)),
  List.forall_mem_cons.mpr ⟨sd_oLdR_n 115 110 0 0 rfl (dk_115_0 (110, .aload_n 0, 1) (List.mem_of_getElem? (i := 20) rfl)),
  List.forall_mem_cons.mpr ⟨sd_callVW 115 111 99 0 6 165 7 [] (gdV hws_115 hws_99 zw474 zw475 zw476 zw362 zw473) hws_99 (by decide +kernel) rfl rfl ⟨by decide +kernel, by decide +kernel, by decide +kernel⟩ ⟨by decide, by decide⟩ (catch_nil rfl) RX6 rfl TX6 8 rfl ⟨by decide, by decide⟩ (dk_115_0 (111, .invokevirtual 165, 3) (List.mem_of_getElem? (i := 21) rfl)),
  List.forall_mem_cons.mpr ⟨sd_zret 115 114 rfl (dk_115_0 (114, .ireturn, 1) (List.mem_of_getElem? (i := 22) rfl)),
  List.forall_mem_cons.mpr ⟨sd_oLdR_n 115 115 0 0 rfl (dk_115_0 (115, .aload_n 0, 1) (List.mem_of_getElem? (i := 23) rfl)),
  List.forall_mem_cons.mpr ⟨sd_callVW 115 116 102 0 11 159 7 [] (gdV hws_115 hws_102 zw462 zw463 zw464 zw362 zw461) hws_102 (by decide +kernel) rfl rfl ⟨by decide +kernel, by decide +kernel, by decide +kernel⟩ ⟨by decide, by decide⟩ (catch_nil rfl) RX6 rfl TX6 8 rfl ⟨by decide, by decide⟩ (dk_115_0 (116, .invokevirtual 159, 3) (List.mem_of_getElem? (i := 24) rfl)),
  List.forall_mem_cons.mpr ⟨sd_zret 115 119 rfl (dk_115_0 (119, .ireturn, 1) (List.mem_of_getElem? (i := 25) rfl)),
  List.forall_mem_cons.mpr ⟨sd_oLdR_n 115 120 0 0 rfl (dk_115_0 (120, .aload_n 0, 1) (List.mem_of_getElem? (i := 26) rfl)),
  List.forall_mem_cons.mpr ⟨sd_callVW 115 121 104 0 7 161 7 [] (gdV hws_115 hws_104 zw466 zw467 zw468 zw362 zw465) hws_104 (by decide +kernel) rfl rfl ⟨by decide +kernel, by decide +kernel, by decide +kernel⟩ ⟨by decide, by decide⟩ (catch_nil rfl) RX6 rfl TX6 8 rfl ⟨by decide, by decide⟩ (dk_115_0 (121, .invokevirtual 161, 3) (List.mem_of_getElem? (i := 27) rfl)),
  List.forall_mem_cons.mpr ⟨sd_zret 115 124 rfl (dk_115_0 (124, .ireturn, 1) (List.mem_of_getElem? (i := 28) rfl)),
  List.forall_mem_cons.mpr ⟨sd_oLdR_n 115 125 0 0 rfl (dk_115_0 (125, .aload_n 0, 1) (List.mem_of_getElem? (i := 29) rfl)),
  List.forall_mem_cons.mpr ⟨sd_callVW 115 126 105 0 7 167 7 [] (gdV hws_115 hws_105 zw478 zw479 zw480 zw362 zw477) hws_105 (by decide +kernel) rfl rfl ⟨by decide +kernel, by decide +kernel, by decide +kernel⟩ ⟨by decide, by decide⟩ (catch_nil rfl) RX6 rfl TX6 8 rfl ⟨by decide, by decide⟩ (dk_115_0 (126, .invokevirtual 167, 3) (List.mem_of_getElem? (i := 30) rfl)),
  fun _ h => nomatch h⟩⟩⟩⟩⟩⟩⟩⟩⟩⟩⟩⟩⟩⟩⟩⟩⟩⟩⟩⟩⟩⟩⟩⟩⟩⟩⟩
def tb_115_2 : List (Nat × Op1) := [(129, oRetZ), (130, oLdR 0 1), (131, oCallV 107 0 7 7 []), (134, oRetZ), (135, oLdR 0 1), (136, oCallV 108 0 7 7 []), (139, oRetZ), (140, oLdR 0 1), (141, oCallV 109 0 8 7 []), (144, oRetZ), (145, oLdR 0 1), (146, oCallV 113 0 3 7 []), (149, oRetZ)]
theorem sm_115_2 : ∀ q ∈ tb_115_2, SM GwP MdP D A l 115 q.1 q.2 :=
  List.forall_mem_cons.mpr ⟨sd_zret 115 129 rfl (dk_115_0 (129, .ireturn, 1) (List.mem_of_getElem? (i := 31) rfl)),
  List.forall_mem_cons.mpr ⟨sd_oLdR_n 115 130 0 0 rfl (dk_115_0 (130, .aload_n 0, 1) (List.mem_of_getElem? (i := 32) rfl)),
  List.forall_mem_cons.mpr ⟨sd_callVW 115 131 107 0 7 169 7 [] (gdV hws_115 hws_107 zw482 zw483 zw484 zw362 zw481) hws_107 (by decide +kernel) rfl rfl ⟨by decide +kernel, by decide +kernel, by decide +kernel⟩ ⟨by decide, by decide⟩ (catch_nil rfl) RX6 rfl TX6 8 rfl ⟨by decide, by decide⟩ (dk_115_0 (131, .invokevirtual 169, 3) (List.mem_of_getElem? (i := 33) rfl)),
  List.forall_mem_cons.mpr ⟨sd_zret 115 134 rfl (dk_115_0 (134, .ireturn, 1) (List.mem_of_getElem? (i := 34) rfl)),
  List.forall_mem_cons.mpr ⟨sd_oLdR_n 115 135 0 0 rfl (dk_115_0 (135, .aload_n 0, 1) (List.mem_of_getElem? (i := 35) rfl)),
  List.forall_mem_cons.mpr ⟨sd_callVW 115 136 108 0 7 171 7 [] (gdV hws_115 hws_108 zw486 zw487 zw488 zw362 zw485) hws_108 (by decide +kernel) rfl rfl ⟨by decide +kernel, by decide +kernel, by decide +kernel⟩ ⟨by decide, by decide⟩ (catch_nil rfl) RX6 rfl TX6 8 rfl ⟨by decide, by decide⟩ (dk_115_0 (136, .invokevirtual 171, 3) (List.mem_of_getElem? (i := 36) rfl)),
  List.forall_mem_cons.mpr ⟨sd_zret 115 139 rfl (dk_115_0 (139, .ireturn, 1) (List.mem_of_getElem? (i := 37) rfl)),
  List.forall_mem_cons.mpr ⟨sd_oLdR_n 115 140 0 0 rfl (dk_115_0 (140, .aload_n 0, 1) (List.mem_of_getElem? (i := 38) rfl)),
  List.forall_mem_cons.mpr ⟨sd_callVW 115 141 109 0 8 173 7 [] (gdV hws_115 hws_109 zw490 zw491 zw492 zw362 zw489) hws_109 (by decide +kernel) rfl rfl ⟨by decide +kernel, by decide +kernel, by decide +kernel⟩ ⟨by decide, by decide⟩ (catch_nil rfl) RX6 rfl TX6 8 rfl ⟨by decide, by decide⟩ (dk_115_0 (141, .invokevirtual 173, 3) (List.mem_of_getElem? (i := 39) rfl)),
  List.forall_mem_cons.mpr ⟨sd_zret 115 144 rfl (dk_115_1 (144, .ireturn, 1) (List.mem_of_getElem? (i := 0) rfl)),
  List.forall_mem_cons.mpr ⟨sd_oLdR_n 115 145 0 0 rfl (dk_115_1 (145, .aload_n 0, 1) (List.mem_of_getElem? (i := 1) rfl)),
  List.forall_mem_cons.mpr ⟨sd_callV 115 146 113 0 3 175 7 [] (gdV hws_115 hws_113 zw494 zw495 zw496 zw362 zw493) hws_113 rfl (by decide +kernel) rfl rfl ⟨by decide +kernel, by decide +kernel, by decide +kernel⟩ ⟨by decide, by decide⟩ (catch_nil rfl) RX6 rfl TX6 8 rfl ⟨by decide, by decide⟩ (dk_115_1 (146, .invokevirtual 175, 3) (List.mem_of_getElem? (i := 2) rfl)),
  List.forall_mem_cons.mpr ⟨sd_zret 115 149 rfl (dk_115_1 (149, .ireturn, 1) (List.mem_of_getElem? (i := 3) rfl)),
  fun _ h => nomatch h⟩⟩⟩⟩⟩⟩⟩⟩⟩⟩⟩⟩⟩
def tb_115 : List (List (Nat × Op1)) := [tb_115_0, tb_115_1, tb_115_2]
theorem sm_115 : ∀ t ∈ tb_115, ∀ q ∈ t, SM GwP MdP D A l 115 q.1 q.2 := List.forall_mem_cons.mpr ⟨sm_115_0, List.forall_mem_cons.mpr ⟨sm_115_1, List.forall_mem_cons.mpr ⟨sm_115_2, fun _ h => nomatch h⟩⟩⟩
end
