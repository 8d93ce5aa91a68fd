section
variable {D : va_G} {A : Nat → Prop} {l : Launch}
-- 89: MarginaliaModel.<init>()V
def dl_89_0 : List (Nat × Instr × Nat) := [(0, .aload_n 0, 1), (1, .invokespecial 1, 3), (4, .aload_n 0, 1), (5, .bipush 6, 2), (7, .newarray .int, 2), (9, .putfield 9, 3), (12, .aload_n 0, 1), (13, .bipush 40, 2), (15, .newarray .int, 2), (17, .putfield 13, 3), (20, .aload_n 0, 1), (21, .bipush 61, 2), (23, .iconst 0, 1), (24, .multianewarray 16 2, 4), (28, .putfield 18, 3), (31, .aload_n 0, 1), (32, .bipush 60, 2), (34, .newarray .int, 2), (36, .putfield 21, 3), (39, .aload_n 0, 1), (40, .bipush 60, 2), (42, .newarray .int, 2), (44, .putfield 24, 3), (47, .aload_n 0, 1), (48, .bipush 60, 2), (50, .newarray .int, 2), (52, .putfield 27, 3), (55, .aload_n 0, 1), (56, .bipush 60, 2), (58, .newarray .int, 2), (60, .putfield 30, 3), (63, .aload_n 0, 1), (64, .bipush 60, 2), (66, .newarray .int, 2), (68, .putfield 33, 3), (71, .aload_n 0, 1), (72, .bipush 60, 2), (74, .newarray .int, 2), (76, .putfield 36, 3), (79, .aload_n 0, 1)]
theorem dk_89_0 : ∀ q ∈ dl_89_0, decode (mCod (MdP 89)) q.1 = .ok q.2 := by
  rw [show mCod (MdP 89) = cX6_init from rfl]
  decide +kernel
def dl_89_1 : List (Nat × Instr × Nat) := [(80, .bipush 60, 2), (82, .newarray .int, 2), (84, .putfield 39, 3), (87, .aload_n 0, 1), (88, .bipush 60, 2), (90, .newarray .int, 2), (92, .putfield 42, 3), (95, .aload_n 0, 1), (96, .bipush 60, 2), (98, .newarray .int, 2), (100, .putfield 45, 3), (103, .aload_n 0, 1), (104, .bipush 60, 2), (106, .newarray .int, 2), (108, .putfield 48, 3), (111, .aload_n 0, 1), (112, .bipush 60, 2), (114, .newarray .boolean, 2), (116, .putfield 51, 3), (119, .aload_n 0, 1), (120, .bipush 60, 2), (122, .anewarray 55, 3), (125, .putfield 56, 3), (128, .aload_n 0, 1), (129, .iconst 0, 1), (130, .newarray .int, 2), (132, .putfield 59, 3), (135, .aload_n 0, 1), (136, .bipush 60, 2), (138, .newarray .int, 2), (140, .putfield 62, 3), (143, .return_, 1)]
theorem dk_89_1 : ∀ q ∈ dl_89_1, decode (mCod (MdP 89)) q.1 = .ok q.2 := by
  rw [show mCod (MdP 89) = cX6_init from rfl]
  decide +kernel
def tb_89_0 : List (Nat × Op1) := [(0, oLdR 0 1), (1, oObj), (4, oLdR 0 1), (5, oCI 6 2), (7, oNewA 10 2), (9, oPutR 7 2), (12, oLdR 0 1), (13, oCI 40 2), (15, oNewA 10 2), (17, oPutR 7 4), (20, oLdR 0 1), (21, oCI 61 2), (23, oCI 0 1), (24, oNew2), (28, oPutR 7 5), (31, oLdR 0 1), (32, oCI 60 2), (34, oNewA 10 2), (36, oPutR 7 8), (39, oLdR 0 1), (40, oCI 60 2), (42, oNewA 10 2), (44, oPutR 7 9), (47, oLdR 0 1), (48, oCI 60 2), (50, oNewA 10 2), (52, oPutR 7 10), (55, oLdR 0 1), (56, oCI 60 2), (58, oNewA 10 2), (60, oPutR 7 11), (63, oLdR 0 1)]
theorem sm_89_0 : ∀ q ∈ tb_89_0, SM GwP MdP D A l 89 q.1 q.2 :=
  List.forall_mem_cons.mpr ⟨sd_oLdR_n 89 0 0 0 rfl (dk_89_0 (0, .aload_n 0, 1) (List.mem_of_getElem? (i := 0) rfl)),
  List.forall_mem_cons.mpr ⟨sd_obj 89 1 1 (iw_89 _ zw332) (iw_89 _ zw1) (iw_89 _ zw2) (by decide) (by decide) (dk_89_0 (1, .invokespecial 1, 3) (List.mem_of_getElem? (i := 1) rfl)),
  List.forall_mem_cons.mpr ⟨sd_oLdR_n 89 4 0 0 rfl (dk_89_0 (4, .aload_n 0, 1) (List.mem_of_getElem? (i := 2) rfl)),
  List.forall_mem_cons.mpr ⟨sd_bipush 89 5 6 ⟨by decide, by decide⟩ (by decide) (dk_89_0 (5, .bipush 6, 2) (List.mem_of_getElem? (i := 3) rfl)),
  List.forall_mem_cons.mpr ⟨sd_newA 89 7 10 .int (Or.inl ⟨rfl, rfl⟩) (iw_89 _ zw22) (dk_89_0 (7, .newarray .int, 2) (List.mem_of_getElem? (i := 4) rfl)),
  List.forall_mem_cons.mpr ⟨sd_oPutRF 89 9 7 2 9 RX6 TX6 23 rfl ⟨by decide, by decide⟩ rfl (by decide) rfl (fun w h => iw_89 w (uz_6 w h)) rfl tyX6 tyX6_ok nmX6 (Or.inr ⟨_, rfl⟩) rfl rfl rfl (iw_89 _ zw333) (dk_89_0 (9, .putfield 9, 3) (List.mem_of_getElem? (i := 5) rfl)),
  List.forall_mem_cons.mpr ⟨sd_oLdR_n 89 12 0 0 rfl (dk_89_0 (12, .aload_n 0, 1) (List.mem_of_getElem? (i := 6) rfl)),
  List.forall_mem_cons.mpr ⟨sd_bipush 89 13 40 ⟨by decide, by decide⟩ (by decide) (dk_89_0 (13, .bipush 40, 2) (List.mem_of_getElem? (i := 7) rfl)),
  List.forall_mem_cons.mpr ⟨sd_newA 89 15 10 .int (Or.inl ⟨rfl, rfl⟩) (iw_89 _ zw22) (dk_89_0 (15, .newarray .int, 2) (List.mem_of_getElem? (i := 8) rfl)),
  List.forall_mem_cons.mpr ⟨sd_oPutR 89 17 7 4 13 RX6 TX6 23 rfl ⟨by decide, by decide⟩ rfl (by decide) rfl (fun w h => iw_89 w (uz_6 w h)) rfl tyX6 tyX6_ok nmX6 (Or.inr ⟨_, rfl⟩) rfl (iw_89 _ zw334) (dk_89_0 (17, .putfield 13, 3) (List.mem_of_getElem? (i := 9) rfl)),
  List.forall_mem_cons.mpr ⟨sd_oLdR_n 89 20 0 0 rfl (dk_89_0 (20, .aload_n 0, 1) (List.mem_of_getElem? (i := 10) rfl)),
  List.forall_mem_cons.mpr ⟨sd_bipush 89 21 61 ⟨by decide, by decide⟩ (by decide) (dk_89_0 (21, .bipush 61, 2) (List.mem_of_getElem? (i := 11) rfl)),
  List.forall_mem_cons.mpr ⟨sd_iconst 89 23 0 ⟨by decide, by decide⟩ (dk_89_0 (23, .iconst 0, 1) (List.mem_of_getElem? (i := 12) rfl)),
  List.forall_mem_cons.mpr ⟨sd_new2 89 24 16 (iw_89 _ zw335) (iw_89 _ zw22) (dk_89_0 (24, .multianewarray 16 2, 4) (List.mem_of_getElem? (i := 13) rfl)),
  List.forall_mem_cons.mpr ⟨sd_oPutR 89 28 7 5 18 RX6 TX6 23 rfl ⟨by decide, by decide⟩ rfl (by decide) rfl (fun w h => iw_89 w (uz_6 w h)) rfl tyX6 tyX6_ok nmX6 (Or.inr ⟨_, rfl⟩) rfl (iw_89 _ zw336) (dk_89_0 (28, .putfield 18, 3) (List.mem_of_getElem? (i := 14) rfl)),
  List.forall_mem_cons.mpr ⟨sd_oLdR_n 89 31 0 0 rfl (dk_89_0 (31, .aload_n 0, 1) (List.mem_of_getElem? (i := 15) rfl)),
  List.forall_mem_cons.mpr ⟨sd_bipush 89 32 60 ⟨by decide, by decide⟩ (by decide) (dk_89_0 (32, .bipush 60, 2) (List.mem_of_getElem? (i := 16) rfl)),
  List.forall_mem_cons.mpr ⟨sd_newA 89 34 10 .int (Or.inl ⟨rfl, rfl⟩) (iw_89 _ zw22) (dk_89_0 (34, .newarray .int, 2) (List.mem_of_getElem? (i := 17) rfl)),
  List.forall_mem_cons.mpr ⟨sd_oPutRF 89 36 7 8 21 RX6 TX6 23 rfl ⟨by decide, by decide⟩ rfl (by decide) rfl (fun w h => iw_89 w (uz_6 w h)) rfl tyX6 tyX6_ok nmX6 (Or.inr ⟨_, rfl⟩) rfl rfl rfl (iw_89 _ zw337) (dk_89_0 (36, .putfield 21, 3) (List.mem_of_getElem? (i := 18) rfl)),
  List.forall_mem_cons.mpr ⟨sd_oLdR_n 89 39 0 0 rfl (dk_89_0 (39, .aload_n 0, 1) (List.mem_of_getElem? (i := 19) rfl)),
  List.forall_mem_cons.mpr ⟨sd_bipush 89 40 60 ⟨by decide, by decide⟩ (by decide) (dk_89_0 (40, .bipush 60, 2) (List.mem_of_getElem? (i := 20) rfl)),
  List.forall_mem_cons.mpr ⟨sd_newA 89 42 10 .int (Or.inl ⟨rfl, rfl⟩) (iw_89 _ zw22) (dk_89_0 (42, .newarray .int, 2) (List.mem_of_getElem? (i := 21) rfl)),
  List.forall_mem_cons.mpr ⟨sd_oPutRF 89 44 7 9 24 RX6 TX6 23 rfl ⟨by decide, by decide⟩ rfl (by decide) rfl (fun w h => iw_89 w (uz_6 w h)) rfl tyX6 tyX6_ok nmX6 (Or.inr ⟨_, rfl⟩) rfl rfl rfl (iw_89 _ zw338) (dk_89_0 (44, .putfield 24, 3) (List.mem_of_getElem? (i := 22) rfl)),
  List.forall_mem_cons.mpr ⟨sd_oLdR_n 89 47 0 0 rfl (dk_89_0 (47, .aload_n 0, 1) (List.mem_of_getElem? (i := 23) rfl)),
  List.forall_mem_cons.mpr ⟨sd_bipush 89 48 60 ⟨by decide, by decide⟩ (by decide) (dk_89_0 (48, .bipush 60, 2) (List.mem_of_getElem? (i := 24) rfl)),
  List.forall_mem_cons.mpr ⟨sd_newA 89 50 10 .int (Or.inl ⟨rfl, rfl⟩) (iw_89 _ zw22) (dk_89_0 (50, .newarray .int, 2) (List.mem_of_getElem? (i := 25) rfl)),
  List.forall_mem_cons.mpr ⟨sd_oPutRF 89 52 7 10 27 RX6 TX6 23 rfl ⟨by decide, by decide⟩ rfl (by decide) rfl (fun w h => iw_89 w (uz_6 w h)) rfl tyX6 tyX6_ok nmX6 (Or.inr ⟨_, rfl⟩) rfl rfl rfl (iw_89 _ zw339) (dk_89_0 (52, .putfield 27, 3) (List.mem_of_getElem? (i := 26) rfl)),
  List.forall_mem_cons.mpr ⟨sd_oLdR_n 89 55 0 0 rfl (dk_89_0 (55, .aload_n 0, 1) (List.mem_of_getElem? (i := 27) rfl)),
  List.forall_mem_cons.mpr ⟨sd_bipush 89 56 60 ⟨by decide, by decide⟩ (by decide) (dk_89_0 (56, .bipush 60, 2) (List.mem_of_getElem? (i := 28) rfl)),
  List.forall_mem_cons.mpr ⟨sd_newA 89 58 10 .int (Or.inl ⟨rfl, rfl⟩) (iw_89 _ zw22) (dk_89_0 (58, .newarray .int, 2) (List.mem_of_getElem? (i := 29) rfl)),
  List.forall_mem_cons.mpr ⟨sd_oPutRF 89 60 7 11 30 RX6 TX6 23 rfl ⟨by decide, by decide⟩ rfl (by decide) rfl (fun w h => iw_89 w (uz_6 w h)) rfl tyX6 tyX6_ok nmX6 (Or.inr ⟨_, rfl⟩) rfl rfl rfl (iw_89 _ zw340) (dk_89_0 (60, .putfield 30, 3) (List.mem_of_getElem? (i := 30) rfl)),
  List.forall_mem_cons.mpr ⟨sd_oLdR_n 89 63 0 0 rfl (dk_89_0 (63, .aload_n 0, 1) (List.mem_of_getElem? (i := 31) rfl)),
  fun _ h => nomatch h⟩⟩⟩⟩⟩⟩⟩⟩⟩⟩⟩⟩⟩⟩⟩⟩⟩⟩⟩⟩⟩⟩⟩⟩⟩⟩⟩⟩⟩⟩⟩⟩
def tb_89_1 : List (Nat × Op1) := [(64, oCI 60 2), (66, oNewA 10 2), (68, oPutR 7 12), (71, oLdR 0 1), (72, oCI 60 2), (74, oNewA 10 2), (76, oPutR 7 13), (79, oLdR 0 1), (80, oCI 60 2), (82, oNewA 10 2), (84, oPutR 7 14), (87, oLdR 0 1), (88, oCI 60 2), (90, oNewA 10 2), (92, oPutR 7 15), (95, oLdR 0 1), (96, oCI 60 2), (98, oNewA 10 2), (100, oPutR 7 16), (103, oLdR 0 1), (104, oCI 60 2), (106, oNewA 10 2), (108, oPutR 7 17), (111, oLdR 0 1), (112, oCI 60 2), (114, oNewA 12 2), (116, oPutR 7 18), (119, oLdR 0 1), (120, oCI 60 2), (122, oNewA 14 3), (125, oPutR 7 19)]
theorem sm_89_1 : ∀ q ∈ tb_89_1, SM GwP MdP D A l 89 q.1 q.2 :=
  List.forall_mem_cons.mpr ⟨sd_bipush 89 64 60 ⟨by decide, by decide⟩ (by decide) (dk_89_0 (64, .bipush 60, 2) (List.mem_of_getElem? (i := 32) rfl)),
  List.forall_mem_cons.mpr ⟨sd_newA 89 66 10 .int (Or.inl ⟨rfl, rfl⟩) (iw_89 _ zw22) (dk_89_0 (66, .newarray .int, 2) (List.mem_of_getElem? (i := 33) rfl)),
  List.forall_mem_cons.mpr ⟨sd_oPutRF 89 68 7 12 33 RX6 TX6 23 rfl ⟨by decide, by decide⟩ rfl (by decide) rfl (fun w h => iw_89 w (uz_6 w h)) rfl tyX6 tyX6_ok nmX6 (Or.inr ⟨_, rfl⟩) rfl rfl rfl (iw_89 _ zw341) (dk_89_0 (68, .putfield 33, 3) (List.mem_of_getElem? (i := 34) rfl)),
  List.forall_mem_cons.mpr ⟨sd_oLdR_n 89 71 0 0 rfl (dk_89_0 (71, .aload_n 0, 1) (List.mem_of_getElem? (i := 35) rfl)),
  List.forall_mem_cons.mpr ⟨sd_bipush 89 72 60 ⟨by decide, by decide⟩ (by decide) (dk_89_0 (72, .bipush 60, 2) (List.mem_of_getElem? (i := 36) rfl)),
  List.forall_mem_cons.mpr ⟨sd_newA 89 74 10 .int (Or.inl ⟨rfl, rfl⟩) (iw_89 _ zw22) (dk_89_0 (74, .newarray .int, 2) (List.mem_of_getElem? (i := 37) rfl)),
  List.forall_mem_cons.mpr ⟨sd_oPutRF 89 76 7 13 36 RX6 TX6 23 rfl ⟨by decide, by decide⟩ rfl (by decide) rfl (fun w h => iw_89 w (uz_6 w h)) rfl tyX6 tyX6_ok nmX6 (Or.inr ⟨_, rfl⟩) rfl rfl rfl (iw_89 _ zw342) (dk_89_0 (76, .putfield 36, 3) (List.mem_of_getElem? (i := 38) rfl)),
  List.forall_mem_cons.mpr ⟨sd_oLdR_n 89 79 0 0 rfl (dk_89_0 (79, .aload_n 0, 1) (List.mem_of_getElem? (i := 39) rfl)),
  List.forall_mem_cons.mpr ⟨sd_bipush 89 80 60 ⟨by decide, by decide⟩ (by decide) (dk_89_1 (80, .bipush 60, 2) (List.mem_of_getElem? (i := 0) rfl)),
  List.forall_mem_cons.mpr ⟨sd_newA 89 82 10 .int (Or.inl ⟨rfl, rfl⟩) (iw_89 _ zw22) (dk_89_1 (82, .newarray .int, 2) (List.mem_of_getElem? (i := 1) rfl)),
  List.forall_mem_cons.mpr ⟨sd_oPutRF 89 84 7 14 39 RX6 TX6 23 rfl ⟨by decide, by decide⟩ rfl (by decide) rfl (fun w h => iw_89 w (uz_6 w h)) rfl tyX6 tyX6_ok nmX6 (Or.inr ⟨_, rfl⟩) rfl rfl rfl (iw_89 _ zw343) (dk_89_1 (84, .putfield 39, 3) (List.mem_of_getElem? (i := 2) rfl)),
  List.forall_mem_cons.mpr ⟨sd_oLdR_n 89 87 0 0 rfl (dk_89_1 (87, .aload_n 0, 1) (List.mem_of_getElem? (i := 3) rfl)),
  List.forall_mem_cons.mpr ⟨sd_bipush 89 88 60 ⟨by decide, by decide⟩ (by decide) (dk_89_1 (88, .bipush 60, 2) (List.mem_of_getElem? (i := 4) rfl)),
  List.forall_mem_cons.mpr ⟨sd_newA 89 90 10 .int (Or.inl ⟨rfl, rfl⟩) (iw_89 _ zw22) (dk_89_1 (90, .newarray .int, 2) (List.mem_of_getElem? (i := 5) rfl)),
  List.forall_mem_cons.mpr ⟨sd_oPutRF 89 92 7 15 42 RX6 TX6 23 rfl ⟨by decide, by decide⟩ rfl (by decide) rfl (fun w h => iw_89 w (uz_6 w h)) rfl tyX6 tyX6_ok nmX6 (Or.inr ⟨_, rfl⟩) rfl rfl rfl (iw_89 _ zw344) (dk_89_1 (92, .putfield 42, 3) (List.mem_of_getElem? (i := 6) rfl)),
  List.forall_mem_cons.mpr ⟨sd_oLdR_n 89 95 0 0 rfl (dk_89_1 (95, .aload_n 0, 1) (List.mem_of_getElem? (i := 7) rfl)),
  List.forall_mem_cons.mpr ⟨sd_bipush 89 96 60 ⟨by decide, by decide⟩ (by decide) (dk_89_1 (96, .bipush 60, 2) (List.mem_of_getElem? (i := 8) rfl)),
  List.forall_mem_cons.mpr ⟨sd_newA 89 98 10 .int (Or.inl ⟨rfl, rfl⟩) (iw_89 _ zw22) (dk_89_1 (98, .newarray .int, 2) (List.mem_of_getElem? (i := 9) rfl)),
  List.forall_mem_cons.mpr ⟨sd_oPutRF 89 100 7 16 45 RX6 TX6 23 rfl ⟨by decide, by decide⟩ rfl (by decide) rfl (fun w h => iw_89 w (uz_6 w h)) rfl tyX6 tyX6_ok nmX6 (Or.inr ⟨_, rfl⟩) rfl rfl rfl (iw_89 _ zw345) (dk_89_1 (100, .putfield 45, 3) (List.mem_of_getElem? (i := 10) rfl)),
  List.forall_mem_cons.mpr ⟨sd_oLdR_n 89 103 0 0 rfl (dk_89_1 (103, .aload_n 0, 1) (List.mem_of_getElem? (i := 11) rfl)),
  List.forall_mem_cons.mpr ⟨sd_bipush 89 104 60 ⟨by decide, by decide⟩ (by decide) (dk_89_1 (104, .bipush 60, 2) (List.mem_of_getElem? (i := 12) rfl)),
  List.forall_mem_cons.mpr ⟨sd_newA 89 106 10 .int (Or.inl ⟨rfl, rfl⟩) (iw_89 _ zw22) (dk_89_1 (106, .newarray .int, 2) (List.mem_of_getElem? (i := 13) rfl)),
  List.forall_mem_cons.mpr ⟨sd_oPutRF 89 108 7 17 48 RX6 TX6 23 rfl ⟨by decide, by decide⟩ rfl (by decide) rfl (fun w h => iw_89 w (uz_6 w h)) rfl tyX6 tyX6_ok nmX6 (Or.inr ⟨_, rfl⟩) rfl rfl rfl (iw_89 _ zw346) (dk_89_1 (108, .putfield 48, 3) (List.mem_of_getElem? (i := 14) rfl)),
  List.forall_mem_cons.mpr ⟨sd_oLdR_n 89 111 0 0 rfl (dk_89_1 (111, .aload_n 0, 1) (List.mem_of_getElem? (i := 15) rfl)),
  List.forall_mem_cons.mpr ⟨sd_bipush 89 112 60 ⟨by decide, by decide⟩ (by decide) (dk_89_1 (112, .bipush 60, 2) (List.mem_of_getElem? (i := 16) rfl)),
  List.forall_mem_cons.mpr ⟨sd_newA 89 114 12 .boolean (Or.inr (Or.inr ⟨rfl, rfl⟩)) (iw_89 _ zw347) (dk_89_1 (114, .newarray .boolean, 2) (List.mem_of_getElem? (i := 17) rfl)),
  List.forall_mem_cons.mpr ⟨sd_oPutRF 89 116 7 18 51 RX6 TX6 23 rfl ⟨by decide, by decide⟩ rfl (by decide) rfl (fun w h => iw_89 w (uz_6 w h)) rfl tyX6 tyX6_ok nmX6 (Or.inr ⟨_, rfl⟩) rfl rfl rfl (iw_89 _ zw348) (dk_89_1 (116, .putfield 51, 3) (List.mem_of_getElem? (i := 18) rfl)),
  List.forall_mem_cons.mpr ⟨sd_oLdR_n 89 119 0 0 rfl (dk_89_1 (119, .aload_n 0, 1) (List.mem_of_getElem? (i := 19) rfl)),
  List.forall_mem_cons.mpr ⟨sd_bipush 89 120 60 ⟨by decide, by decide⟩ (by decide) (dk_89_1 (120, .bipush 60, 2) (List.mem_of_getElem? (i := 20) rfl)),
  List.forall_mem_cons.mpr ⟨sd_newR 89 122 14 55 "[I" (Or.inr ⟨rfl, rfl⟩) (iw_89 _ zw349) (dk_89_1 (122, .anewarray 55, 3) (List.mem_of_getElem? (i := 21) rfl)),
  List.forall_mem_cons.mpr ⟨sd_oPutRF 89 125 7 19 56 RX6 TX6 23 rfl ⟨by decide, by decide⟩ rfl (by decide) rfl (fun w h => iw_89 w (uz_6 w h)) rfl tyX6 tyX6_ok nmX6 (Or.inr ⟨_, rfl⟩) rfl rfl rfl (iw_89 _ zw350) (dk_89_1 (125, .putfield 56, 3) (List.mem_of_getElem? (i := 22) rfl)),
  fun _ h => nomatch h⟩⟩⟩⟩⟩⟩⟩⟩⟩⟩⟩⟩⟩⟩⟩⟩⟩⟩⟩⟩⟩⟩⟩⟩⟩⟩⟩⟩⟩⟩⟩
def tb_89_2 : List (Nat × Op1) := [(128, oLdR 0 1), (129, oCI 0 1), (130, oNewA 10 2), (132, oPutR 7 20), (135, oLdR 0 1), (136, oCI 60 2), (138, oNewA 10 2), (140, oPutR 7 22), (143, oRetV)]
theorem sm_89_2 : ∀ q ∈ tb_89_2, SM GwP MdP D A l 89 q.1 q.2 :=
  List.forall_mem_cons.mpr ⟨sd_oLdR_n 89 128 0 0 rfl (dk_89_1 (128, .aload_n 0, 1) (List.mem_of_getElem? (i := 23) rfl)),
  List.forall_mem_cons.mpr ⟨sd_iconst 89 129 0 ⟨by decide, by decide⟩ (dk_89_1 (129, .iconst 0, 1) (List.mem_of_getElem? (i := 24) rfl)),
  List.forall_mem_cons.mpr ⟨sd_newA 89 130 10 .int (Or.inl ⟨rfl, rfl⟩) (iw_89 _ zw22) (dk_89_1 (130, .newarray .int, 2) (List.mem_of_getElem? (i := 25) rfl)),
  List.forall_mem_cons.mpr ⟨sd_oPutR 89 132 7 20 59 RX6 TX6 23 rfl ⟨by decide, by decide⟩ rfl (by decide) rfl (fun w h => iw_89 w (uz_6 w h)) rfl tyX6 tyX6_ok nmX6 (Or.inr ⟨_, rfl⟩) rfl (iw_89 _ zw351) (dk_89_1 (132, .putfield 59, 3) (List.mem_of_getElem? (i := 26) rfl)),
  List.forall_mem_cons.mpr ⟨sd_oLdR_n 89 135 0 0 rfl (dk_89_1 (135, .aload_n 0, 1) (List.mem_of_getElem? (i := 27) rfl)),
  List.forall_mem_cons.mpr ⟨sd_bipush 89 136 60 ⟨by decide, by decide⟩ (by decide) (dk_89_1 (136, .bipush 60, 2) (List.mem_of_getElem? (i := 28) rfl)),
  List.forall_mem_cons.mpr ⟨sd_newA 89 138 10 .int (Or.inl ⟨rfl, rfl⟩) (iw_89 _ zw22) (dk_89_1 (138, .newarray .int, 2) (List.mem_of_getElem? (i := 29) rfl)),
  List.forall_mem_cons.mpr ⟨sd_oPutRF 89 140 7 22 62 RX6 TX6 23 rfl ⟨by decide, by decide⟩ rfl (by decide) rfl (fun w h => iw_89 w (uz_6 w h)) rfl tyX6 tyX6_ok nmX6 (Or.inr ⟨_, rfl⟩) rfl rfl rfl (iw_89 _ zw352) (dk_89_1 (140, .putfield 62, 3) (List.mem_of_getElem? (i := 30) rfl)),
  List.forall_mem_cons.mpr ⟨sd_vret 89 143 rfl (dk_89_1 (143, .return_, 1) (List.mem_of_getElem? (i := 31) rfl)),
  fun _ h => nomatch h⟩⟩⟩⟩⟩⟩⟩⟩⟩
def tb_89 : List (List (Nat × Op1)) := [tb_89_0, tb_89_1, tb_89_2]
theorem sm_89 : ∀ t ∈ tb_89, ∀ q ∈ t, SM GwP MdP D A l 89 q.1 q.2 := List.forall_mem_cons.mpr ⟨sm_89_0, List.forall_mem_cons.mpr ⟨sm_89_1, List.forall_mem_cons.mpr ⟨sm_89_2, fun _ h => nomatch h⟩⟩⟩
-- 90: MarginaliaModel.thrown()I
def dl_90_0 : List (Nat × Instr × Nat) := [(0, .aload_n 0, 1), (1, .getfield 65, 3), (4, .ireturn, 1)]
theorem dk_90_0 : ∀ q ∈ dl_90_0, decode (mCod (MdP 90)) q.1 = .ok q.2 := by
  rw [show mCod (MdP 90) = cX6_thrown from rfl]
  decide +kernel
def tb_90_0 : List (Nat × Op1) := [(0, oLdR 0 1), (1, oGetI 7 0), (4, oRetI)]
theorem sm_90_0 : ∀ q ∈ tb_90_0, SM GwP MdP D A l 90 q.1 q.2 :=
  List.forall_mem_cons.mpr ⟨sd_oLdR_n 90 0 0 0 rfl (dk_90_0 (0, .aload_n 0, 1) (List.mem_of_getElem? (i := 0) rfl)),
  List.forall_mem_cons.mpr ⟨sd_oGetI 90 1 7 0 65 RX6 TX6 23 rfl ⟨by decide, by decide⟩ rfl (by decide) rfl (fun w h => iw_90 w (uz_6 w h)) rfl (iw_90 _ zw353) (dk_90_0 (1, .getfield 65, 3) (List.mem_of_getElem? (i := 1) rfl)),
  List.forall_mem_cons.mpr ⟨sd_iret 90 4 rfl (dk_90_0 (4, .ireturn, 1) (List.mem_of_getElem? (i := 2) rfl)),
  fun _ h => nomatch h⟩⟩⟩
def tb_90 : List (List (Nat × Op1)) := [tb_90_0]
theorem sm_90 : ∀ t ∈ tb_90, ∀ q ∈ t, SM GwP MdP D A l 90 q.1 q.2 := List.forall_mem_cons.mpr ⟨sm_90_0, fun _ h => nomatch h⟩
-- 91: MarginaliaModel.no(I)I
def dl_91_0 : List (Nat × Instr × Nat) := [(0, .aload_n 0, 1), (1, .iload_n 1, 1), (2, .putfield 65, 3), (5, .iconst 0, 1), (6, .ireturn, 1)]
theorem dk_91_0 : ∀ q ∈ dl_91_0, decode (mCod (MdP 91)) q.1 = .ok q.2 := by
  rw [show mCod (MdP 91) = cX6_no from rfl]
  decide +kernel
def tb_91_0 : List (Nat × Op1) := [(0, oLdR 0 1), (1, oLdI 1 1), (2, oPutI 7 0), (5, oCI 0 1), (6, oRetI)]
theorem sm_91_0 : ∀ q ∈ tb_91_0, SM GwP MdP D A l 91 q.1 q.2 :=
  List.forall_mem_cons.mpr ⟨sd_oLdR_n 91 0 0 0 rfl (dk_91_0 (0, .aload_n 0, 1) (List.mem_of_getElem? (i := 0) rfl)),
  List.forall_mem_cons.mpr ⟨sd_oLdI_n 91 1 1 1 rfl (dk_91_0 (1, .iload_n 1, 1) (List.mem_of_getElem? (i := 1) rfl)),
  List.forall_mem_cons.mpr ⟨sd_oPutI 91 2 7 0 65 RX6 TX6 23 rfl ⟨by decide, by decide⟩ rfl (by decide) rfl (fun w h => iw_91 w (uz_6 w h)) rfl tyX6 tyX6_ok nmX6 rfl rfl (iw_91 _ zw353) (dk_91_0 (2, .putfield 65, 3) (List.mem_of_getElem? (i := 2) rfl)),
  List.forall_mem_cons.mpr ⟨sd_iconst 91 5 0 ⟨by decide, by decide⟩ (dk_91_0 (5, .iconst 0, 1) (List.mem_of_getElem? (i := 3) rfl)),
  List.forall_mem_cons.mpr ⟨sd_iret 91 6 rfl (dk_91_0 (6, .ireturn, 1) (List.mem_of_getElem? (i := 4) rfl)),
  fun _ h => nomatch h⟩⟩⟩⟩⟩
def tb_91 : List (List (Nat × Op1)) := [tb_91_0]
theorem sm_91 : ∀ t ∈ tb_91, ∀ q ∈ t, SM GwP MdP D A l 91 q.1 q.2 := List.forall_mem_cons.mpr ⟨sm_91_0, fun _ h => nomatch h⟩
-- 92: MarginaliaModel.isNot(I)Z
def dl_92_0 : List (Nat × Instr × Nat) := [(0, .aload_n 0, 1), (1, .iload_n 1, 1), (2, .putfield 65, 3), (5, .iconst 0, 1), (6, .ireturn, 1)]
theorem dk_92_0 : ∀ q ∈ dl_92_0, decode (mCod (MdP 92)) q.1 = .ok q.2 := by
  rw [show mCod (MdP 92) = cX6_isNot from rfl]
  decide +kernel
def tb_92_0 : List (Nat × Op1) := [(0, oLdR 0 1), (1, oLdI 1 1), (2, oPutI 7 0), (5, oCI 0 1), (6, oRetZ)]
theorem sm_92_0 : ∀ q ∈ tb_92_0, SM GwP MdP D A l 92 q.1 q.2 :=
  List.forall_mem_cons.mpr ⟨sd_oLdR_n 92 0 0 0 rfl (dk_92_0 (0, .aload_n 0, 1) (List.mem_of_getElem? (i := 0) rfl)),
  List.forall_mem_cons.mpr ⟨sd_oLdI_n 92 1 1 1 rfl (dk_92_0 (1, .iload_n 1, 1) (List.mem_of_getElem? (i := 1) rfl)),
  List.forall_mem_cons.mpr ⟨sd_oPutI 92 2 7 0 65 RX6 TX6 23 rfl ⟨by decide, by decide⟩ rfl (by decide) rfl (fun w h => iw_92 w (uz_6 w h)) rfl tyX6 tyX6_ok nmX6 rfl rfl (iw_92 _ zw353) (dk_92_0 (2, .putfield 65, 3) (List.mem_of_getElem? (i := 2) rfl)),
  List.forall_mem_cons.mpr ⟨sd_iconst 92 5 0 ⟨by decide, by decide⟩ (dk_92_0 (5, .iconst 0, 1) (List.mem_of_getElem? (i := 3) rfl)),
  List.forall_mem_cons.mpr ⟨sd_zret 92 6 rfl (dk_92_0 (6, .ireturn, 1) (List.mem_of_getElem? (i := 4) rfl)),
  fun _ h => nomatch h⟩⟩⟩⟩⟩
def tb_92 : List (List (Nat × Op1)) := [tb_92_0]
theorem sm_92 : ∀ t ∈ tb_92, ∀ q ∈ t, SM GwP MdP D A l 92 q.1 q.2 := List.forall_mem_cons.mpr ⟨sm_92_0, fun _ h => nomatch h⟩
-- 93: MarginaliaModel.ok(I)I
def dl_93_0 : List (Nat × Instr × Nat) := [(0, .aload_n 0, 1), (1, .iconst 0, 1), (2, .putfield 65, 3), (5, .iload_n 1, 1), (6, .ireturn, 1)]
theorem dk_93_0 : ∀ q ∈ dl_93_0, decode (mCod (MdP 93)) q.1 = .ok q.2 := by
  rw [show mCod (MdP 93) = cX6_ok from rfl]
  decide +kernel
def tb_93_0 : List (Nat × Op1) := [(0, oLdR 0 1), (1, oCI 0 1), (2, oPutI 7 0), (5, oLdI 1 1), (6, oRetI)]
theorem sm_93_0 : ∀ q ∈ tb_93_0, SM GwP MdP D A l 93 q.1 q.2 :=
  List.forall_mem_cons.mpr ⟨sd_oLdR_n 93 0 0 0 rfl (dk_93_0 (0, .aload_n 0, 1) (List.mem_of_getElem? (i := 0) rfl)),
  List.forall_mem_cons.mpr ⟨sd_iconst 93 1 0 ⟨by decide, by decide⟩ (dk_93_0 (1, .iconst 0, 1) (List.mem_of_getElem? (i := 1) rfl)),
  List.forall_mem_cons.mpr ⟨sd_oPutI 93 2 7 0 65 RX6 TX6 23 rfl ⟨by decide, by decide⟩ rfl (by decide) rfl (fun w h => iw_93 w (uz_6 w h)) rfl tyX6 tyX6_ok nmX6 rfl rfl (iw_93 _ zw353) (dk_93_0 (2, .putfield 65, 3) (List.mem_of_getElem? (i := 2) rfl)),
  List.forall_mem_cons.mpr ⟨sd_oLdI_n 93 5 1 1 rfl (dk_93_0 (5, .iload_n 1, 1) (List.mem_of_getElem? (i := 3) rfl)),
  List.forall_mem_cons.mpr ⟨sd_iret 93 6 rfl (dk_93_0 (6, .ireturn, 1) (List.mem_of_getElem? (i := 4) rfl)),
  fun _ h => nomatch h⟩⟩⟩⟩⟩
def tb_93 : List (List (Nat × Op1)) := [tb_93_0]
theorem sm_93 : ∀ t ∈ tb_93, ∀ q ∈ t, SM GwP MdP D A l 93 q.1 q.2 := List.forall_mem_cons.mpr ⟨sm_93_0, fun _ h => nomatch h⟩
-- 94: MarginaliaModel.isIn(III)Z
def dl_94_0 : List (Nat × Instr × Nat) := [(0, .iload_n 0, 1), (1, .iload_n 1, 1), (2, .if_icmp .lt 12, 3), (5, .iload_n 0, 1), (6, .iload_n 2, 1), (7, .if_icmp .gt 7, 3), (10, .iconst 1, 1), (11, .goto 4, 3), (14, .iconst 0, 1), (15, .ireturn, 1)]
theorem dk_94_0 : ∀ q ∈ dl_94_0, decode (mCod (MdP 94)) q.1 = .ok q.2 := by
  rw [show mCod (MdP 94) = cX6_isIn from rfl]
  decide +kernel
def tb_94_0 : List (Nat × Op1) := [(0, oLdI 0 1), (1, oLdI 1 1), (2, oClt 14), (5, oLdI 0 1), (6, oLdI 2 1), (7, oCgt 14), (10, oCI 1 1), (11, oGoto 15), (14, oCI 0 1), (15, oRetZ)]
theorem sm_94_0 : ∀ q ∈ tb_94_0, SM GwP MdP D A l 94 q.1 q.2 :=
  List.forall_mem_cons.mpr ⟨sd_oLdI_n 94 0 0 0 rfl (dk_94_0 (0, .iload_n 0, 1) (List.mem_of_getElem? (i := 0) rfl)),
  List.forall_mem_cons.mpr ⟨sd_oLdI_n 94 1 1 1 rfl (dk_94_0 (1, .iload_n 1, 1) (List.mem_of_getElem? (i := 1) rfl)),
  List.forall_mem_cons.mpr ⟨sd_icmp_lt 94 2 12 14 (by decide) (dk_94_0 (2, .if_icmp .lt 12, 3) (List.mem_of_getElem? (i := 2) rfl)),
  List.forall_mem_cons.mpr ⟨sd_oLdI_n 94 5 0 0 rfl (dk_94_0 (5, .iload_n 0, 1) (List.mem_of_getElem? (i := 3) rfl)),
  List.forall_mem_cons.mpr ⟨sd_oLdI_n 94 6 2 2 rfl (dk_94_0 (6, .iload_n 2, 1) (List.mem_of_getElem? (i := 4) rfl)),
  List.forall_mem_cons.mpr ⟨sd_icmp_gt 94 7 7 14 (by decide) (dk_94_0 (7, .if_icmp .gt 7, 3) (List.mem_of_getElem? (i := 5) rfl)),
  List.forall_mem_cons.mpr ⟨sd_iconst 94 10 1 ⟨by decide, by decide⟩ (dk_94_0 (10, .iconst 1, 1) (List.mem_of_getElem? (i := 6) rfl)),
  List.forall_mem_cons.mpr ⟨sd_goto 94 11 4 15 (by decide) (dk_94_0 (11, .goto 4, 3) (List.mem_of_getElem? (i := 7) rfl)),
  List.forall_mem_cons.mpr ⟨sd_iconst 94 14 0 ⟨by decide, by decide⟩ (dk_94_0 (14, .iconst 0, 1) (List.mem_of_getElem? (i := 8) rfl)),
  List.forall_mem_cons.mpr ⟨sd_zret 94 15 rfl (dk_94_0 (15, .ireturn, 1) (List.mem_of_getElem? (i := 9) rfl)),
  fun _ h => nomatch h⟩⟩⟩⟩⟩⟩⟩⟩⟩⟩
def tb_94 : List (List (Nat × Op1)) := [tb_94_0]
theorem sm_94 : ∀ t ∈ tb_94, ∀ q ∈ t, SM GwP MdP D A l 94 q.1 q.2 := List.forall_mem_cons.mpr ⟨sm_94_0, fun _ h => nomatch h⟩
-- 95: MarginaliaModel.isUser(I)Z
def dl_95_0 : List (Nat × Instr × Nat) := [(0, .iload_n 1, 1), (1, .iconst 0, 1), (2, .aload_n 0, 1), (3, .getfield 69, 3), (6, .iconst 1, 1), (7, .isub, 1), (8, .invokestatic 72, 3), (11, .ireturn, 1)]
theorem dk_95_0 : ∀ q ∈ dl_95_0, decode (mCod (MdP 95)) q.1 = .ok q.2 := by
  rw [show mCod (MdP 95) = cX6_isUser from rfl]
  decide +kernel
def tb_95_0 : List (Nat × Op1) := [(0, oLdI 1 1), (1, oCI 0 1), (2, oLdR 0 1), (3, oGetI 7 1), (6, oCI 1 1), (7, oSub), (8, oCallS 94 3 3 []), (11, oRetZ)]
theorem sm_95_0 : ∀ q ∈ tb_95_0, SM GwP MdP D A l 95 q.1 q.2 :=
  List.forall_mem_cons.mpr ⟨sd_oLdI_n 95 0 1 1 rfl (dk_95_0 (0, .iload_n 1, 1) (List.mem_of_getElem? (i := 0) rfl)),
  List.forall_mem_cons.mpr ⟨sd_iconst 95 1 0 ⟨by decide, by decide⟩ (dk_95_0 (1, .iconst 0, 1) (List.mem_of_getElem? (i := 1) rfl)),
  List.forall_mem_cons.mpr ⟨sd_oLdR_n 95 2 0 0 rfl (dk_95_0 (2, .aload_n 0, 1) (List.mem_of_getElem? (i := 2) rfl)),
  List.forall_mem_cons.mpr ⟨sd_oGetI 95 3 7 1 69 RX6 TX6 23 rfl ⟨by decide, by decide⟩ rfl (by decide) rfl (fun w h => iw_95 w (uz_6 w h)) rfl (iw_95 _ zw354) (dk_95_0 (3, .getfield 69, 3) (List.mem_of_getElem? (i := 3) rfl)),
  List.forall_mem_cons.mpr ⟨sd_iconst 95 6 1 ⟨by decide, by decide⟩ (dk_95_0 (6, .iconst 1, 1) (List.mem_of_getElem? (i := 4) rfl)),
  List.forall_mem_cons.mpr ⟨sd_isub 95 7 (dk_95_0 (7, .isub, 1) (List.mem_of_getElem? (i := 5) rfl)),
  List.forall_mem_cons.mpr ⟨sd_callS 95 8 94 3 3 72 [] (gdS hws_95 hws_94 zw356 zw357 zw358 zw355) hws_94 rfl (by decide +kernel) rfl rfl ⟨by decide +kernel, by decide +kernel, by decide +kernel⟩ ⟨by decide, by decide⟩ (catch_nil rfl) (dk_95_0 (8, .invokestatic 72, 3) (List.mem_of_getElem? (i := 6) rfl)),
  List.forall_mem_cons.mpr ⟨sd_zret 95 11 rfl (dk_95_0 (11, .ireturn, 1) (List.mem_of_getElem? (i := 7) rfl)),
  fun _ h => nomatch h⟩⟩⟩⟩⟩⟩⟩⟩
def tb_95 : List (List (Nat × Op1)) := [tb_95_0]
theorem sm_95 : ∀ t ∈ tb_95, ∀ q ∈ t, SM GwP MdP D A l 95 q.1 q.2 := List.forall_mem_cons.mpr ⟨sm_95_0, fun _ h => nomatch h⟩
-- 96: MarginaliaModel.isNote(I)Z
def dl_96_0 : List (Nat × Instr × Nat) := [(0, .iload_n 1, 1), (1, .iconst 0, 1), (2, .aload_n 0, 1), (3, .getfield 76, 3), (6, .iconst 1, 1), (7, .isub, 1), (8, .invokestatic 72, 3), (11, .ifCond .eq 17, 3), (14, .aload_n 0, 1), (15, .getfield 33, 3), (18, .iload_n 1, 1), (19, .iaload, 1), (20, .iconst 2, 1), (21, .if_icmp .eq 7, 3), (24, .iconst 1, 1), (25, .goto 4, 3), (28, .iconst 0, 1), (29, .ireturn, 1)]
theorem dk_96_0 : ∀ q ∈ dl_96_0, decode (mCod (MdP 96)) q.1 = .ok q.2 := by
  rw [show mCod (MdP 96) = cX6_isNote from rfl]
  decide +kernel
def tb_96_0 : List (Nat × Op1) := [(0, oLdI 1 1), (1, oCI 0 1), (2, oLdR 0 1), (3, oGetI 7 7), (6, oCI 1 1), (7, oSub), (8, oCallS 94 3 3 []), (11, oZeq 28), (14, oLdR 0 1), (15, oGetR 7 12), (18, oLdI 1 1), (19, oALdI 10), (20, oCI 2 1), (21, oCeq 28), (24, oCI 1 1), (25, oGoto 29), (28, oCI 0 1), (29, oRetZ)]
theorem sm_96_0 : ∀ q ∈ tb_96_0, SM GwP MdP D A l 96 q.1 q.2 :=
  List.forall_mem_cons.mpr ⟨sd_oLdI_n 96 0 1 1 rfl (dk_96_0 (0, .iload_n 1, 1) (List.mem_of_getElem? (i := 0) rfl)),
  List.forall_mem_cons.mpr ⟨sd_iconst 96 1 0 ⟨by decide, by decide⟩ (dk_96_0 (1, .iconst 0, 1) (List.mem_of_getElem? (i := 1) rfl)),
  List.forall_mem_cons.mpr ⟨sd_oLdR_n 96 2 0 0 rfl (dk_96_0 (2, .aload_n 0, 1) (List.mem_of_getElem? (i := 2) rfl)),
  List.forall_mem_cons.mpr ⟨sd_oGetI 96 3 7 7 76 RX6 TX6 23 rfl ⟨by decide, by decide⟩ rfl (by decide) rfl (fun w h => iw_96 w (uz_6 w h)) rfl (iw_96 _ zw359) (dk_96_0 (3, .getfield 76, 3) (List.mem_of_getElem? (i := 3) rfl)),
  List.forall_mem_cons.mpr ⟨sd_iconst 96 6 1 ⟨by decide, by decide⟩ (dk_96_0 (6, .iconst 1, 1) (List.mem_of_getElem? (i := 4) rfl)),
  List.forall_mem_cons.mpr ⟨sd_isub 96 7 (dk_96_0 (7, .isub, 1) (List.mem_of_getElem? (i := 5) rfl)),
  List.forall_mem_cons.mpr ⟨sd_callS 96 8 94 3 3 72 [] (gdS hws_96 hws_94 zw356 zw357 zw358 zw355) hws_94 rfl (by decide +kernel) rfl rfl ⟨by decide +kernel, by decide +kernel, by decide +kernel⟩ ⟨by decide, by decide⟩ (catch_nil rfl) (dk_96_0 (8, .invokestatic 72, 3) (List.mem_of_getElem? (i := 6) rfl)),
  List.forall_mem_cons.mpr ⟨sd_if_eq 96 11 17 28 (by decide) (dk_96_0 (11, .ifCond .eq 17, 3) (List.mem_of_getElem? (i := 7) rfl)),
  List.forall_mem_cons.mpr ⟨sd_oLdR_n 96 14 0 0 rfl (dk_96_0 (14, .aload_n 0, 1) (List.mem_of_getElem? (i := 8) rfl)),
  List.forall_mem_cons.mpr ⟨sd_oGetR 96 15 7 12 33 RX6 TX6 23 rfl ⟨by decide, by decide⟩ rfl (by decide) rfl (fun w h => iw_96 w (uz_6 w h)) rfl (iw_96 _ zw341) (dk_96_0 (15, .getfield 33, 3) (List.mem_of_getElem? (i := 9) rfl)),
  List.forall_mem_cons.mpr ⟨sd_oLdI_n 96 18 1 1 rfl (dk_96_0 (18, .iload_n 1, 1) (List.mem_of_getElem? (i := 10) rfl)),
  List.forall_mem_cons.mpr ⟨sd_iald 96 19 (dk_96_0 (19, .iaload, 1) (List.mem_of_getElem? (i := 11) rfl)),
  List.forall_mem_cons.mpr ⟨sd_iconst 96 20 2 ⟨by decide, by decide⟩ (dk_96_0 (20, .iconst 2, 1) (List.mem_of_getElem? (i := 12) rfl)),
  List.forall_mem_cons.mpr ⟨sd_icmp_eq 96 21 7 28 (by decide) (dk_96_0 (21, .if_icmp .eq 7, 3) (List.mem_of_getElem? (i := 13) rfl)),
  List.forall_mem_cons.mpr ⟨sd_iconst 96 24 1 ⟨by decide, by decide⟩ (dk_96_0 (24, .iconst 1, 1) (List.mem_of_getElem? (i := 14) rfl)),
  List.forall_mem_cons.mpr ⟨sd_goto 96 25 4 29 (by decide) (dk_96_0 (25, .goto 4, 3) (List.mem_of_getElem? (i := 15) rfl)),
  List.forall_mem_cons.mpr ⟨sd_iconst 96 28 0 ⟨by decide, by decide⟩ (dk_96_0 (28, .iconst 0, 1) (List.mem_of_getElem? (i := 16) rfl)),
  List.forall_mem_cons.mpr ⟨sd_zret 96 29 rfl (dk_96_0 (29, .ireturn, 1) (List.mem_of_getElem? (i := 17) rfl)),
  fun _ h => nomatch h⟩⟩⟩⟩⟩⟩⟩⟩⟩⟩⟩⟩⟩⟩⟩⟩⟩⟩
def tb_96 : List (List (Nat × Op1)) := [tb_96_0]
theorem sm_96 : ∀ t ∈ tb_96, ∀ q ∈ t, SM GwP MdP D A l 96 q.1 q.2 := List.forall_mem_cons.mpr ⟨sm_96_0, fun _ h => nomatch h⟩
-- 97: MarginaliaModel.text()[I
def dl_97_0 : List (Nat × Instr × Nat) := [(0, .aload_n 0, 1), (1, .getfield 18, 3), (4, .aload_n 0, 1), (5, .getfield 79, 3), (8, .aaload, 1), (9, .areturn, 1)]
theorem dk_97_0 : ∀ q ∈ dl_97_0, decode (mCod (MdP 97)) q.1 = .ok q.2 := by
  rw [show mCod (MdP 97) = cX6_text from rfl]
  decide +kernel
def tb_97_0 : List (Nat × Op1) := [(0, oLdR 0 1), (1, oGetR 7 5), (4, oLdR 0 1), (5, oGetI 7 6), (8, oALdR 14), (9, oRetR)]
theorem sm_97_0 : ∀ q ∈ tb_97_0, SM GwP MdP D A l 97 q.1 q.2 :=
  List.forall_mem_cons.mpr ⟨sd_oLdR_n 97 0 0 0 rfl (dk_97_0 (0, .aload_n 0, 1) (List.mem_of_getElem? (i := 0) rfl)),
  List.forall_mem_cons.mpr ⟨sd_oGetR 97 1 7 5 18 RX6 TX6 23 rfl ⟨by decide, by decide⟩ rfl (by decide) rfl (fun w h => iw_97 w (uz_6 w h)) rfl (iw_97 _ zw336) (dk_97_0 (1, .getfield 18, 3) (List.mem_of_getElem? (i := 1) rfl)),
  List.forall_mem_cons.mpr ⟨sd_oLdR_n 97 4 0 0 rfl (dk_97_0 (4, .aload_n 0, 1) (List.mem_of_getElem? (i := 2) rfl)),
  List.forall_mem_cons.mpr ⟨sd_oGetI 97 5 7 6 79 RX6 TX6 23 rfl ⟨by decide, by decide⟩ rfl (by decide) rfl (fun w h => iw_97 w (uz_6 w h)) rfl (iw_97 _ zw360) (dk_97_0 (5, .getfield 79, 3) (List.mem_of_getElem? (i := 3) rfl)),
  List.forall_mem_cons.mpr ⟨sd_aaldA 97 8 (dk_97_0 (8, .aaload, 1) (List.mem_of_getElem? (i := 4) rfl)),
  List.forall_mem_cons.mpr ⟨sd_aret 97 9 rfl (Or.inr ⟨_, rfl⟩) (dk_97_0 (9, .areturn, 1) (List.mem_of_getElem? (i := 5) rfl)),
  fun _ h => nomatch h⟩⟩⟩⟩⟩⟩
def tb_97 : List (List (Nat × Op1)) := [tb_97_0]
theorem sm_97 : ∀ t ∈ tb_97, ∀ q ∈ t, SM GwP MdP D A l 97 q.1 q.2 := List.forall_mem_cons.mpr ⟨sm_97_0, fun _ h => nomatch h⟩
-- 98: MarginaliaModel.user(I)I
def dl_98_0 : List (Nat × Instr × Nat) := [(0, .aload_n 0, 1), (1, .iconst 0, 1), (2, .putfield 65, 3), (5, .iload_n 1, 1), (6, .iconst 0, 1), (7, .iconst 4, 1), (8, .invokestatic 72, 3), (11, .ifCond .ne 9, 3), (14, .aload_n 0, 1), (15, .iconst 1, 1), (16, .invokevirtual 82, 3), (19, .ireturn, 1), (20, .aload_n 0, 1), (21, .getfield 69, 3), (24, .bipush 6, 2), (26, .if_icmp .ne 9, 3), (29, .aload_n 0, 1), (30, .iconst 2, 1), (31, .invokevirtual 82, 3), (34, .ireturn, 1), (35, .aload_n 0, 1), (36, .getfield 9, 3), (39, .aload_n 0, 1), (40, .getfield 69, 3), (43, .iload_n 1, 1), (44, .iastore, 1), (45, .aload_n 0, 1), (46, .dup, 1), (47, .getfield 69, 3), (50, .dup_x1, 1), (51, .iconst 1, 1), (52, .iadd, 1), (53, .putfield 69, 3), (56, .ireturn, 1)]
theorem dk_98_0 : ∀ q ∈ dl_98_0, decode (mCod (MdP 98)) q.1 = .ok q.2 := by
  rw [show mCod (MdP 98) = cX6_user from rfl]
  decide +kernel
def tb_98_0 : List (Nat × Op1) := [(0, oLdR 0 1), (1, oCI 0 1), (2, oPutI 7 0), (5, oLdI 1 1), (6, oCI 0 1), (7, oCI 4 1), (8, oCallS 94 3 3 []), (11, oZne 20), (14, oLdR 0 1), (15, oCI 1 1), (16, oCallV 91 1 2 7 []), (19, oRetI), (20, oLdR 0 1), (21, oGetI 7 1), (24, oCI 6 2), (26, oCne 35), (29, oLdR 0 1), (30, oCI 2 1), (31, oCallV 91 1 2 7 []), (34, oRetI), (35, oLdR 0 1), (36, oGetR 7 2), (39, oLdR 0 1), (40, oGetI 7 1), (43, oLdI 1 1), (44, oAStI), (45, oLdR 0 1), (46, oDup), (47, oGetI 7 1), (50, oDupX1), (51, oCI 1 1), (52, oAdd), (53, oPutI 7 1), (56, oRetI)]
theorem sm_98_0 : ∀ q ∈ tb_98_0, SM GwP MdP D A l 98 q.1 q.2 :=
  List.forall_mem_cons.mpr ⟨sd_oLdR_n 98 0 0 0 rfl (dk_98_0 (0, .aload_n 0, 1) (List.mem_of_getElem? (i := 0) rfl)),
  List.forall_mem_cons.mpr ⟨sd_iconst 98 1 0 ⟨by decide, by decide⟩ (dk_98_0 (1, .iconst 0, 1) (List.mem_of_getElem? (i := 1) rfl)),
  List.forall_mem_cons.mpr ⟨sd_oPutI 98 2 7 0 65 RX6 TX6 23 rfl ⟨by decide, by decide⟩ rfl (by decide) rfl (fun w h => iw_98 w (uz_6 w h)) rfl tyX6 tyX6_ok nmX6 rfl rfl (iw_98 _ zw353) (dk_98_0 (2, .putfield 65, 3) (List.mem_of_getElem? (i := 2) rfl)),
  List.forall_mem_cons.mpr ⟨sd_oLdI_n 98 5 1 1 rfl (dk_98_0 (5, .iload_n 1, 1) (List.mem_of_getElem? (i := 3) rfl)),
  List.forall_mem_cons.mpr ⟨sd_iconst 98 6 0 ⟨by decide, by decide⟩ (dk_98_0 (6, .iconst 0, 1) (List.mem_of_getElem? (i := 4) rfl)),
  List.forall_mem_cons.mpr ⟨sd_iconst 98 7 4 ⟨by decide, by decide⟩ (dk_98_0 (7, .iconst 4, 1) (List.mem_of_getElem? (i := 5) rfl)),
  List.forall_mem_cons.mpr ⟨sd_callS 98 8 94 3 3 72 [] (gdS hws_98 hws_94 zw356 zw357 zw358 zw355) hws_94 rfl (by decide +kernel) rfl rfl ⟨by decide +kernel, by decide +kernel, by decide +kernel⟩ ⟨by decide, by decide⟩ (catch_nil rfl) (dk_98_0 (8, .invokestatic 72, 3) (List.mem_of_getElem? (i := 6) rfl)),
  List.forall_mem_cons.mpr ⟨sd_if_ne 98 11 9 20 (by decide) (dk_98_0 (11, .ifCond .ne 9, 3) (List.mem_of_getElem? (i := 7) rfl)),
  List.forall_mem_cons.mpr ⟨sd_oLdR_n 98 14 0 0 rfl (dk_98_0 (14, .aload_n 0, 1) (List.mem_of_getElem? (i := 8) rfl)),
  List.forall_mem_cons.mpr ⟨sd_iconst 98 15 1 ⟨by decide, by decide⟩ (dk_98_0 (15, .iconst 1, 1) (List.mem_of_getElem? (i := 9) rfl)),
  List.forall_mem_cons.mpr ⟨sd_callV 98 16 91 1 2 82 7 [] (gdV hws_98 hws_91 zw362 zw363 zw364 zw358 zw361) hws_91 rfl (by decide +kernel) rfl rfl ⟨by decide +kernel, by decide +kernel, by decide +kernel⟩ ⟨by decide, by decide⟩ (catch_nil rfl) RX6 rfl TX6 23 rfl ⟨by decide, by decide⟩ (dk_98_0 (16, .invokevirtual 82, 3) (List.mem_of_getElem? (i := 10) rfl)),
  List.forall_mem_cons.mpr ⟨sd_iret 98 19 rfl (dk_98_0 (19, .ireturn, 1) (List.mem_of_getElem? (i := 11) rfl)),
  List.forall_mem_cons.mpr ⟨sd_oLdR_n 98 20 0 0 rfl (dk_98_0 (20, .aload_n 0, 1) (List.mem_of_getElem? (i := 12) rfl)),
  List.forall_mem_cons.mpr ⟨sd_oGetI 98 21 7 1 69 RX6 TX6 23 rfl ⟨by decide, by decide⟩ rfl (by decide) rfl (fun w h => iw_98 w (uz_6 w h)) rfl (iw_98 _ zw354) (dk_98_0 (21, .getfield 69, 3) (List.mem_of_getElem? (i := 13) rfl)),
  List.forall_mem_cons.mpr ⟨sd_bipush 98 24 6 ⟨by decide, by decide⟩ (by decide) (dk_98_0 (24, .bipush 6, 2) (List.mem_of_getElem? (i := 14) rfl)),
  List.forall_mem_cons.mpr ⟨sd_icmp_ne 98 26 9 35 (by decide) (dk_98_0 (26, .if_icmp .ne 9, 3) (List.mem_of_getElem? (i := 15) rfl)),
  List.forall_mem_cons.mpr ⟨sd_oLdR_n 98 29 0 0 rfl (dk_98_0 (29, .aload_n 0, 1) (List.mem_of_getElem? (i := 16) rfl)),
  List.forall_mem_cons.mpr ⟨sd_iconst 98 30 2 ⟨by decide, by decide⟩ (dk_98_0 (30, .iconst 2, 1) (List.mem_of_getElem? (i := 17) rfl)),
  List.forall_mem_cons.mpr ⟨sd_callV 98 31 91 1 2 82 7 [] (gdV hws_98 hws_91 zw362 zw363 zw364 zw358 zw361) hws_91 rfl (by decide +kernel) rfl rfl ⟨by decide +kernel, by decide +kernel, by decide +kernel⟩ ⟨by decide, by decide⟩ (catch_nil rfl) RX6 rfl TX6 23 rfl ⟨by decide, by decide⟩ (dk_98_0 (31, .invokevirtual 82, 3) (List.mem_of_getElem? (i := 18) rfl)),
  List.forall_mem_cons.mpr ⟨sd_iret 98 34 rfl (dk_98_0 (34, .ireturn, 1) (List.mem_of_getElem? (i := 19) rfl)),
  List.forall_mem_cons.mpr ⟨sd_oLdR_n 98 35 0 0 rfl (dk_98_0 (35, .aload_n 0, 1) (List.mem_of_getElem? (i := 20) rfl)),
  List.forall_mem_cons.mpr ⟨sd_oGetR 98 36 7 2 9 RX6 TX6 23 rfl ⟨by decide, by decide⟩ rfl (by decide) rfl (fun w h => iw_98 w (uz_6 w h)) rfl (iw_98 _ zw333) (dk_98_0 (36, .getfield 9, 3) (List.mem_of_getElem? (i := 21) rfl)),
  List.forall_mem_cons.mpr ⟨sd_oLdR_n 98 39 0 0 rfl (dk_98_0 (39, .aload_n 0, 1) (List.mem_of_getElem? (i := 22) rfl)),
  List.forall_mem_cons.mpr ⟨sd_oGetI 98 40 7 1 69 RX6 TX6 23 rfl ⟨by decide, by decide⟩ rfl (by decide) rfl (fun w h => iw_98 w (uz_6 w h)) rfl (iw_98 _ zw354) (dk_98_0 (40, .getfield 69, 3) (List.mem_of_getElem? (i := 23) rfl)),
  List.forall_mem_cons.mpr ⟨sd_oLdI_n 98 43 1 1 rfl (dk_98_0 (43, .iload_n 1, 1) (List.mem_of_getElem? (i := 24) rfl)),
  List.forall_mem_cons.mpr ⟨sd_iast 98 44 (dk_98_0 (44, .iastore, 1) (List.mem_of_getElem? (i := 25) rfl)),
  List.forall_mem_cons.mpr ⟨sd_oLdR_n 98 45 0 0 rfl (dk_98_0 (45, .aload_n 0, 1) (List.mem_of_getElem? (i := 26) rfl)),
  List.forall_mem_cons.mpr ⟨sd_dup 98 46 (dk_98_0 (46, .dup, 1) (List.mem_of_getElem? (i := 27) rfl)),
  List.forall_mem_cons.mpr ⟨sd_oGetI 98 47 7 1 69 RX6 TX6 23 rfl ⟨by decide, by decide⟩ rfl (by decide) rfl (fun w h => iw_98 w (uz_6 w h)) rfl (iw_98 _ zw354) (dk_98_0 (47, .getfield 69, 3) (List.mem_of_getElem? (i := 28) rfl)),
  List.forall_mem_cons.mpr ⟨sd_dup_x1 98 50 (dk_98_0 (50, .dup_x1, 1) (List.mem_of_getElem? (i := 29) rfl)),
  List.forall_mem_cons.mpr ⟨sd_iconst 98 51 1 ⟨by decide, by decide⟩ (dk_98_0 (51, .iconst 1, 1) (List.mem_of_getElem? (i := 30) rfl)),
  List.forall_mem_cons.mpr ⟨sd_iadd 98 52 (dk_98_0 (52, .iadd, 1) (List.mem_of_getElem? (i := 31) rfl)),
  List.forall_mem_cons.mpr ⟨sd_oPutI 98 53 7 1 69 RX6 TX6 23 rfl ⟨by decide, by decide⟩ rfl (by decide) rfl (fun w h => iw_98 w (uz_6 w h)) rfl tyX6 tyX6_ok nmX6 rfl rfl (iw_98 _ zw354) (dk_98_0 (53, .putfield 69, 3) (List.mem_of_getElem? (i := 32) rfl)),
  List.forall_mem_cons.mpr ⟨sd_iret 98 56 rfl (dk_98_0 (56, .ireturn, 1) (List.mem_of_getElem? (i := 33) rfl)),
  fun _ h => nomatch h⟩⟩⟩⟩⟩⟩⟩⟩⟩⟩⟩⟩⟩⟩⟩⟩⟩⟩⟩⟩⟩⟩⟩⟩⟩⟩⟩⟩⟩⟩⟩⟩⟩⟩
def tb_98 : List (List (Nat × Op1)) := [tb_98_0]
theorem sm_98 : ∀ t ∈ tb_98, ∀ q ∈ t, SM GwP MdP D A l 98 q.1 q.2 := List.forall_mem_cons.mpr ⟨sm_98_0, fun _ h => nomatch h⟩
-- 99: MarginaliaModel.setRight(III)I
def dl_99_0 : List (Nat × Instr × Nat) := [(0, .aload_n 0, 1), (1, .iconst 0, 1), (2, .putfield 65, 3), (5, .aload_n 0, 1), (6, .iload_n 1, 1), (7, .invokevirtual 86, 3), (10, .ifCond .eq 11, 3), (13, .aload_n 0, 1), (14, .iload_n 2, 1), (15, .invokevirtual 86, 3), (18, .ifCond .ne 9, 3), (21, .aload_n 0, 1), (22, .iconst 1, 1), (23, .invokevirtual 82, 3), (26, .ireturn, 1), (27, .iload_n 3, 1), (28, .iconst 0, 1), (29, .iconst 4, 1), (30, .invokestatic 72, 3), (33, .ifCond .ne 9, 3), (36, .aload_n 0, 1), (37, .iconst 2, 1), (38, .invokevirtual 82, 3), (41, .ireturn, 1), (42, .aload_n 0, 1), (43, .getfield 9, 3), (46, .iload_n 1, 1), (47, .iaload, 1), (48, .iconst 4, 1), (49, .if_icmp .ge 9, 3), (52, .aload_n 0, 1), (53, .iconst 3, 1), (54, .invokevirtual 82, 3), (57, .ireturn, 1), (58, .aload_n 0, 1), (59, .getfield 9, 3), (62, .iload_n 2, 1), (63, .iaload, 1), (64, .istore 4, 2), (66, .aload_n 0, 1)]
theorem dk_99_0 : ∀ q ∈ dl_99_0, decode (mCod (MdP 99)) q.1 = .ok q.2 := by
  rw [show mCod (MdP 99) = cX6_setRight from rfl]
  decide +kernel
def dl_99_1 : List (Nat × Instr × Nat) := [(67, .getfield 9, 3), (70, .iload_n 2, 1), (71, .iload_n 3, 1), (72, .iastore, 1), (73, .iload 4, 2), (75, .ireturn, 1)]
theorem dk_99_1 : ∀ q ∈ dl_99_1, decode (mCod (MdP 99)) q.1 = .ok q.2 := by
  rw [show mCod (MdP 99) = cX6_setRight from rfl]
  decide +kernel
def tb_99_0 : List (Nat × Op1) := [(0, oLdR 0 1), (1, oCI 0 1), (2, oPutI 7 0), (5, oLdR 0 1), (6, oLdI 1 1), (7, oCallV 95 1 2 7 []), (10, oZeq 21), (13, oLdR 0 1), (14, oLdI 2 1), (15, oCallV 95 1 2 7 []), (18, oZne 27), (21, oLdR 0 1), (22, oCI 1 1), (23, oCallV 91 1 2 7 []), (26, oRetI), (27, oLdI 3 1), (28, oCI 0 1), (29, oCI 4 1), (30, oCallS 94 3 3 []), (33, oZne 42), (36, oLdR 0 1), (37, oCI 2 1), (38, oCallV 91 1 2 7 []), (41, oRetI), (42, oLdR 0 1), (43, oGetR 7 2), (46, oLdI 1 1), (47, oALdI 10), (48, oCI 4 1), (49, oCge 58), (52, oLdR 0 1), (53, oCI 3 1), (54, oCallV 91 1 2 7 []), (57, oRetI), (58, oLdR 0 1), (59, oGetR 7 2), (62, oLdI 2 1), (63, oALdI 10)]
theorem sm_99_0 : ∀ q ∈ tb_99_0, SM GwP MdP D A l 99 q.1 q.2 :=
  List.forall_mem_cons.mpr ⟨sd_oLdR_n 99 0 0 0 rfl (dk_99_0 (0, .aload_n 0, 1) (List.mem_of_getElem? (i := 0) rfl)),
  List.forall_mem_cons.mpr ⟨sd_iconst 99 1 0 ⟨by decide, by decide⟩ (dk_99_0 (1, .iconst 0, 1) (List.mem_of_getElem? (i := 1) rfl)),
  List.forall_mem_cons.mpr ⟨sd_oPutI 99 2 7 0 65 RX6 TX6 23 rfl ⟨by decide, by decide⟩ rfl (by decide) rfl (fun w h => iw_99 w (uz_6 w h)) rfl tyX6 tyX6_ok nmX6 rfl rfl (iw_99 _ zw353) (dk_99_0 (2, .putfield 65, 3) (List.mem_of_getElem? (i := 2) rfl)),
  List.forall_mem_cons.mpr ⟨sd_oLdR_n 99 5 0 0 rfl (dk_99_0 (5, .aload_n 0, 1) (List.mem_of_getElem? (i := 3) rfl)),
  List.forall_mem_cons.mpr ⟨sd_oLdI_n 99 6 1 1 rfl (dk_99_0 (6, .iload_n 1, 1) (List.mem_of_getElem? (i := 4) rfl)),
  List.forall_mem_cons.mpr ⟨sd_callV 99 7 95 1 2 86 7 [] (gdV hws_99 hws_95 zw366 zw367 zw368 zw358 zw365) hws_95 rfl (by decide +kernel) rfl rfl ⟨by decide +kernel, by decide +kernel, by decide +kernel⟩ ⟨by decide, by decide⟩ (catch_nil rfl) RX6 rfl TX6 23 rfl ⟨by decide, by decide⟩ (dk_99_0 (7, .invokevirtual 86, 3) (List.mem_of_getElem? (i := 5) rfl)),
  List.forall_mem_cons.mpr ⟨sd_if_eq 99 10 11 21 (by decide) (dk_99_0 (10, .ifCond .eq 11, 3) (List.mem_of_getElem? (i := 6) rfl)),
  List.forall_mem_cons.mpr ⟨sd_oLdR_n 99 13 0 0 rfl (dk_99_0 (13, .aload_n 0, 1) (List.mem_of_getElem? (i := 7) rfl)),
  List.forall_mem_cons.mpr ⟨sd_oLdI_n 99 14 2 2 rfl (dk_99_0 (14, .iload_n 2, 1) (List.mem_of_getElem? (i := 8) rfl)),
  List.forall_mem_cons.mpr ⟨sd_callV 99 15 95 1 2 86 7 [] (gdV hws_99 hws_95 zw366 zw367 zw368 zw358 zw365) hws_95 rfl (by decide +kernel) rfl rfl ⟨by decide +kernel, by decide +kernel, by decide +kernel⟩ ⟨by decide, by decide⟩ (catch_nil rfl) RX6 rfl TX6 23 rfl ⟨by decide, by decide⟩ (dk_99_0 (15, .invokevirtual 86, 3) (List.mem_of_getElem? (i := 9) rfl)),
  List.forall_mem_cons.mpr ⟨sd_if_ne 99 18 9 27 (by decide) (dk_99_0 (18, .ifCond .ne 9, 3) (List.mem_of_getElem? (i := 10) rfl)),
  List.forall_mem_cons.mpr ⟨sd_oLdR_n 99 21 0 0 rfl (dk_99_0 (21, .aload_n 0, 1) (List.mem_of_getElem? (i := 11) rfl)),
  List.forall_mem_cons.mpr ⟨sd_iconst 99 22 1 ⟨by decide, by decide⟩ (dk_99_0 (22, .iconst 1, 1) (List.mem_of_getElem? (i := 12) rfl)),
  List.forall_mem_cons.mpr ⟨sd_callV 99 23 91 1 2 82 7 [] (gdV hws_99 hws_91 zw362 zw363 zw364 zw358 zw361) hws_91 rfl (by decide +kernel) rfl rfl ⟨by decide +kernel, by decide +kernel, by decide +kernel⟩ ⟨by decide, by decide⟩ (catch_nil rfl) RX6 rfl TX6 23 rfl ⟨by decide, by decide⟩ (dk_99_0 (23, .invokevirtual 82, 3) (List.mem_of_getElem? (i := 13) rfl)),
  List.forall_mem_cons.mpr ⟨sd_iret 99 26 rfl (dk_99_0 (26, .ireturn, 1) (List.mem_of_getElem? (i := 14) rfl)),
  List.forall_mem_cons.mpr ⟨sd_oLdI_n 99 27 3 3 rfl (dk_99_0 (27, .iload_n 3, 1) (List.mem_of_getElem? (i := 15) rfl)),
  List.forall_mem_cons.mpr ⟨sd_iconst 99 28 0 ⟨by decide, by decide⟩ (dk_99_0 (28, .iconst 0, 1) (List.mem_of_getElem? (i := 16) rfl)),
  List.forall_mem_cons.mpr ⟨sd_iconst 99 29 4 ⟨by decide, by decide⟩ (dk_99_0 (29, .iconst 4, 1) (List.mem_of_getElem? (i := 17) rfl)),
  List.forall_mem_cons.mpr ⟨sd_callS 99 30 94 3 3 72 [] (gdS hws_99 hws_94 zw356 zw357 zw358 zw355) hws_94 rfl (by decide +kernel) rfl rfl ⟨by decide +kernel, by decide +kernel, by decide +kernel⟩ ⟨by decide, by decide⟩ (catch_nil rfl) (dk_99_0 (30, .invokestatic 72, 3) (List.mem_of_getElem? (i := 18) rfl)),
  List.forall_mem_cons.mpr ⟨sd_if_ne 99 33 9 42 (by decide) (dk_99_0 (33, .ifCond .ne 9, 3) (List.mem_of_getElem? (i := 19) rfl)),
  List.forall_mem_cons.mpr ⟨sd_oLdR_n 99 36 0 0 rfl (dk_99_0 (36, .aload_n 0, 1) (List.mem_of_getElem? (i := 20) rfl)),
  List.forall_mem_cons.mpr ⟨sd_iconst 99 37 2 ⟨by decide, by decide⟩ (dk_99_0 (37, .iconst 2, 1) (List.mem_of_getElem? (i := 21) rfl)),
  List.forall_mem_cons.mpr ⟨sd_callV 99 38 91 1 2 82 7 [] (gdV hws_99 hws_91 zw362 zw363 zw364 zw358 zw361) hws_91 rfl (by decide +kernel) rfl rfl ⟨by decide +kernel, by decide +kernel, by decide +kernel⟩ ⟨by decide, by decide⟩ (catch_nil rfl) RX6 rfl TX6 23 rfl ⟨by decide, by decide⟩ (dk_99_0 (38, .invokevirtual 82, 3) (List.mem_of_getElem? (i := 22) rfl)),
  List.forall_mem_cons.mpr ⟨sd_iret 99 41 rfl (dk_99_0 (41, .ireturn, 1) (List.mem_of_getElem? (i := 23) rfl)),
  List.forall_mem_cons.mpr ⟨sd_oLdR_n 99 42 0 0 rfl (dk_99_0 (42, .aload_n 0, 1) (List.mem_of_getElem? (i := 24) rfl)),
  List.forall_mem_cons.mpr ⟨sd_oGetR 99 43 7 2 9 RX6 TX6 23 rfl ⟨by decide, by decide⟩ rfl (by decide) rfl (fun w h => iw_99 w (uz_6 w h)) rfl (iw_99 _ zw333) (dk_99_0 (43, .getfield 9, 3) (List.mem_of_getElem? (i := 25) rfl)),
  List.forall_mem_cons.mpr ⟨sd_oLdI_n 99 46 1 1 rfl (dk_99_0 (46, .iload_n 1, 1) (List.mem_of_getElem? (i := 26) rfl)),
  List.forall_mem_cons.mpr ⟨sd_iald 99 47 (dk_99_0 (47, .iaload, 1) (List.mem_of_getElem? (i := 27) rfl)),
  List.forall_mem_cons.mpr ⟨sd_iconst 99 48 4 ⟨by decide, by decide⟩ (dk_99_0 (48, .iconst 4, 1) (List.mem_of_getElem? (i := 28) rfl)),
  List.forall_mem_cons.mpr ⟨sd_icmp_ge 99 49 9 58 (by decide) (dk_99_0 (49, .if_icmp .ge 9, 3) (List.mem_of_getElem? (i := 29) rfl)),
  List.forall_mem_cons.mpr ⟨sd_oLdR_n 99 52 0 0 rfl (dk_99_0 (52, .aload_n 0, 1) (List.mem_of_getElem? (i := 30) rfl)),
  List.forall_mem_cons.mpr ⟨sd_iconst 99 53 3 ⟨by decide, by decide⟩ (dk_99_0 (53, .iconst 3, 1) (List.mem_of_getElem? (i := 31) rfl)),
  List.forall_mem_cons.mpr ⟨sd_callV 99 54 91 1 2 82 7 [] (gdV hws_99 hws_91 zw362 zw363 zw364 zw358 zw361) hws_91 rfl (by decide +kernel) rfl rfl ⟨by decide +kernel, by decide +kernel, by decide +kernel⟩ ⟨by decide, by decide⟩ (catch_nil rfl) RX6 rfl TX6 23 rfl ⟨by decide, by decide⟩ (dk_99_0 (54, .invokevirtual 82, 3) (List.mem_of_getElem? (i := 32) rfl)),
  List.forall_mem_cons.mpr ⟨sd_iret 99 57 rfl (dk_99_0 (57, .ireturn, 1) (List.mem_of_getElem? (i := 33) rfl)),
  List.forall_mem_cons.mpr ⟨sd_oLdR_n 99 58 0 0 rfl (dk_99_0 (58, .aload_n 0, 1) (List.mem_of_getElem? (i := 34) rfl)),
  List.forall_mem_cons.mpr ⟨sd_oGetR 99 59 7 2 9 RX6 TX6 23 rfl ⟨by decide, by decide⟩ rfl (by decide) rfl (fun w h => iw_99 w (uz_6 w h)) rfl (iw_99 _ zw333) (dk_99_0 (59, .getfield 9, 3) (List.mem_of_getElem? (i := 35) rfl)),
  List.forall_mem_cons.mpr ⟨sd_oLdI_n 99 62 2 2 rfl (dk_99_0 (62, .iload_n 2, 1) (List.mem_of_getElem? (i := 36) rfl)),
  List.forall_mem_cons.mpr ⟨sd_iald 99 63 (dk_99_0 (63, .iaload, 1) (List.mem_of_getElem? (i := 37) rfl)),
  fun _ h => nomatch h⟩⟩⟩⟩⟩⟩⟩⟩⟩⟩⟩⟩⟩⟩⟩⟩⟩⟩⟩⟩⟩⟩⟩⟩⟩⟩⟩⟩⟩⟩⟩⟩⟩⟩⟩⟩⟩⟩
def tb_99_1 : List (Nat × Op1) := [(64, oStI 4 2), (66, oLdR 0 1), (67, oGetR 7 2), (70, oLdI 2 1), (71, oLdI 3 1), (72, oAStI), (73, oLdI 4 2), (75, oRetI)]
theorem sm_99_1 : ∀ q ∈ tb_99_1, SM GwP MdP D A l 99 q.1 q.2 :=
  List.forall_mem_cons.mpr ⟨sd_oStI 99 64 4 (by decide) (dk_99_0 (64, .istore 4, 2) (List.mem_of_getElem? (i := 38) rfl)),
  List.forall_mem_cons.mpr ⟨sd_oLdR_n 99 66 0 0 rfl (dk_99_0 (66, .aload_n 0, 1) (List.mem_of_getElem? (i := 39) rfl)),
  List.forall_mem_cons.mpr ⟨sd_oGetR 99 67 7 2 9 RX6 TX6 23 rfl ⟨by decide, by decide⟩ rfl (by decide) rfl (fun w h => iw_99 w (uz_6 w h)) rfl (iw_99 _ zw333) (dk_99_1 (67, .getfield 9, 3) (List.mem_of_getElem? (i := 0) rfl)),
  List.forall_mem_cons.mpr ⟨sd_oLdI_n 99 70 2 2 rfl (dk_99_1 (70, .iload_n 2, 1) (List.mem_of_getElem? (i := 1) rfl)),
  List.forall_mem_cons.mpr ⟨sd_oLdI_n 99 71 3 3 rfl (dk_99_1 (71, .iload_n 3, 1) (List.mem_of_getElem? (i := 2) rfl)),
  List.forall_mem_cons.mpr ⟨sd_iast 99 72 (dk_99_1 (72, .iastore, 1) (List.mem_of_getElem? (i := 3) rfl)),
  List.forall_mem_cons.mpr ⟨sd_oLdI 99 73 4 (dk_99_1 (73, .iload 4, 2) (List.mem_of_getElem? (i := 4) rfl)),
  List.forall_mem_cons.mpr ⟨sd_iret 99 75 rfl (dk_99_1 (75, .ireturn, 1) (List.mem_of_getElem? (i := 5) rfl)),
  fun _ h => nomatch h⟩⟩⟩⟩⟩⟩⟩⟩
def tb_99 : List (List (Nat × Op1)) := [tb_99_0, tb_99_1]
theorem sm_99 : ∀ t ∈ tb_99, ∀ q ∈ t, SM GwP MdP D A l 99 q.1 q.2 := List.forall_mem_cons.mpr ⟨sm_99_0, List.forall_mem_cons.mpr ⟨sm_99_1, fun _ h => nomatch h⟩⟩
-- 100: MarginaliaModel.put(III)V
def dl_100_0 : List (Nat × Instr × Nat) := [(0, .aload_n 0, 1), (1, .invokevirtual 90, 3), (4, .astore 4, 2), (6, .aload 4, 2), (8, .arraylength, 1), (9, .iload_n 2, 1), (10, .iadd, 1), (11, .newarray .int, 2), (13, .astore 5, 2), (15, .aload 4, 2), (17, .iconst 0, 1), (18, .aload 5, 2), (20, .iconst 0, 1), (21, .iload_n 1, 1), (22, .invokestatic 94, 3), (25, .aload 4, 2), (27, .iload_n 1, 1), (28, .aload 5, 2), (30, .iload_n 1, 1), (31, .iload_n 2, 1), (32, .iadd, 1), (33, .aload 4, 2), (35, .arraylength, 1), (36, .iload_n 1, 1), (37, .isub, 1), (38, .invokestatic 94, 3), (41, .aload_n 0, 1), (42, .getfield 100, 3), (45, .iload_n 2, 1), (46, .iadd, 1), (47, .aload_n 0, 1), (48, .getfield 13, 3), (51, .arraylength, 1), (52, .if_icmp .le 36, 3), (55, .iconst 2, 1), (56, .aload_n 0, 1), (57, .getfield 100, 3), (60, .iload_n 2, 1), (61, .iadd, 1), (62, .imul, 1)]
theorem dk_100_0 : ∀ q ∈ dl_100_0, decode (mCod (MdP 100)) q.1 = .ok q.2 := by
  rw [show mCod (MdP 100) = cX6_put from rfl]
  decide +kernel
def dl_100_1 : List (Nat × Instr × Nat) := [(63, .newarray .int, 2), (65, .astore 6, 2), (67, .aload_n 0, 1), (68, .getfield 13, 3), (71, .iconst 0, 1), (72, .aload 6, 2), (74, .iconst 0, 1), (75, .aload_n 0, 1), (76, .getfield 100, 3), (79, .invokestatic 94, 3), (82, .aload_n 0, 1), (83, .aload 6, 2), (85, .putfield 13, 3), (88, .iconst 0, 1), (89, .istore 6, 2), (91, .iload 6, 2), (93, .iload_n 2, 1), (94, .if_icmp .ge 43, 3), (97, .aload_n 0, 1), (98, .getfield 13, 3), (101, .aload_n 0, 1), (102, .getfield 100, 3), (105, .iload_n 3, 1), (106, .iload 6, 2), (108, .iadd, 1), (109, .bipush 26, 2), (111, .irem, 1), (112, .iastore, 1), (113, .aload 5, 2), (115, .iload_n 1, 1), (116, .iload 6, 2), (118, .iadd, 1), (119, .aload_n 0, 1), (120, .dup, 1), (121, .getfield 100, 3), (124, .dup_x1, 1), (125, .iconst 1, 1), (126, .iadd, 1), (127, .putfield 100, 3), (130, .iastore, 1)]
theorem dk_100_1 : ∀ q ∈ dl_100_1, decode (mCod (MdP 100)) q.1 = .ok q.2 := by
  rw [show mCod (MdP 100) = cX6_put from rfl]
  decide +kernel
def dl_100_2 : List (Nat × Instr × Nat) := [(131, .iinc 6 1, 3), (134, .goto (-43), 3), (137, .aload_n 0, 1), (138, .getfield 18, 3), (141, .aload_n 0, 1), (142, .dup, 1), (143, .getfield 79, 3), (146, .iconst 1, 1), (147, .iadd, 1), (148, .dup_x1, 1), (149, .putfield 79, 3), (152, .aload 5, 2), (154, .aastore, 1), (155, .iconst 0, 1), (156, .istore 6, 2), (158, .iload 6, 2), (160, .aload_n 0, 1), (161, .getfield 76, 3), (164, .if_icmp .ge 87, 3), (167, .aload_n 0, 1), (168, .getfield 30, 3), (171, .iload 6, 2), (173, .iaload, 1), (174, .iload 6, 2), (176, .if_icmp .eq 6, 3), (179, .goto 66, 3), (182, .aload_n 0, 1), (183, .getfield 39, 3), (186, .iload 6, 2), (188, .dup2, 1), (189, .iaload, 1), (190, .iload_n 1, 1), (191, .aload_n 0, 1), (192, .getfield 36, 3), (195, .iload 6, 2), (197, .iaload, 1), (198, .if_icmp .le 14, 3), (201, .iload_n 1, 1), (202, .aload_n 0, 1), (203, .getfield 39, 3)]
theorem dk_100_2 : ∀ q ∈ dl_100_2, decode (mCod (MdP 100)) q.1 = .ok q.2 := by
  rw [show mCod (MdP 100) = cX6_put from rfl]
  decide +kernel
def dl_100_3 : List (Nat × Instr × Nat) := [(206, .iload 6, 2), (208, .iaload, 1), (209, .if_icmp .ge 7, 3), (212, .iload_n 2, 1), (213, .goto 4, 3), (216, .iconst 0, 1), (217, .iadd, 1), (218, .iastore, 1), (219, .aload_n 0, 1), (220, .getfield 36, 3), (223, .iload 6, 2), (225, .dup2, 1), (226, .iaload, 1), (227, .iload_n 1, 1), (228, .aload_n 0, 1), (229, .getfield 36, 3), (232, .iload 6, 2), (234, .iaload, 1), (235, .if_icmp .gt 7, 3), (238, .iload_n 2, 1), (239, .goto 4, 3), (242, .iconst 0, 1), (243, .iadd, 1), (244, .iastore, 1), (245, .iinc 6 1, 3), (248, .goto (-90), 3), (251, .return_, 1)]
theorem dk_100_3 : ∀ q ∈ dl_100_3, decode (mCod (MdP 100)) q.1 = .ok q.2 := by
  rw [show mCod (MdP 100) = cX6_put from rfl]
  decide +kernel
def tb_100_0 : List (Nat × Op1) := [(0, oLdR 0 1), (1, oCallV 97 0 1 7 []), (4, oStR 4 2), (6, oLdR 4 2), (8, oALen 10), (9, oLdI 2 1), (10, oAdd), (11, oNewA 10 2), (13, oStR 5 2), (15, oLdR 4 2), (17, oCI 0 1), (18, oLdR 5 2), (20, oCI 0 1), (21, oLdI 1 1), (22, oCpy), (25, oLdR 4 2), (27, oLdI 1 1), (28, oLdR 5 2), (30, oLdI 1 1), (31, oLdI 2 1), (32, oAdd), (33, oLdR 4 2), (35, oALen 10), (36, oLdI 1 1), (37, oSub), (38, oCpy), (41, oLdR 0 1), (42, oGetI 7 3), (45, oLdI 2 1), (46, oAdd), (47, oLdR 0 1), (48, oGetR 7 4), (51, oALen 10), (52, oCle 88), (55, oCI 2 1), (56, oLdR 0 1), (57, oGetI 7 3), (60, oLdI 2 1), (61, oAdd), (62, oMul), (63, oNewA 10 2)]
theorem sm_100_0 : ∀ q ∈ tb_100_0, SM GwP MdP D A l 100 q.1 q.2 :=
  List.forall_mem_cons.mpr ⟨sd_oLdR_n 100 0 0 0 rfl (dk_100_0 (0, .aload_n 0, 1) (List.mem_of_getElem? (i := 0) rfl)),
  List.forall_mem_cons.mpr ⟨sd_callV 100 1 97 0 1 90 7 [] (gdV hws_100 hws_97 zw370 zw371 zw372 zw358 zw369) hws_97 rfl (by decide +kernel) rfl rfl ⟨by decide +kernel, by decide +kernel, by decide +kernel⟩ ⟨by decide, by decide⟩ (catch_nil rfl) RX6 rfl TX6 23 rfl ⟨by decide, by decide⟩ (dk_100_0 (1, .invokevirtual 90, 3) (List.mem_of_getElem? (i := 1) rfl)),
  List.forall_mem_cons.mpr ⟨sd_oStR 100 4 4 (by decide) (dk_100_0 (4, .astore 4, 2) (List.mem_of_getElem? (i := 2) rfl)),
  List.forall_mem_cons.mpr ⟨sd_oLdR 100 6 4 (dk_100_0 (6, .aload 4, 2) (List.mem_of_getElem? (i := 3) rfl)),
  List.forall_mem_cons.mpr ⟨sd_alen 100 8 10 ⟨by decide, by decide⟩ (dk_100_0 (8, .arraylength, 1) (List.mem_of_getElem? (i := 4) rfl)),
  List.forall_mem_cons.mpr ⟨sd_oLdI_n 100 9 2 2 rfl (dk_100_0 (9, .iload_n 2, 1) (List.mem_of_getElem? (i := 5) rfl)),
  List.forall_mem_cons.mpr ⟨sd_iadd 100 10 (dk_100_0 (10, .iadd, 1) (List.mem_of_getElem? (i := 6) rfl)),
  List.forall_mem_cons.mpr ⟨sd_newA 100 11 10 .int (Or.inl ⟨rfl, rfl⟩) (iw_100 _ zw22) (dk_100_0 (11, .newarray .int, 2) (List.mem_of_getElem? (i := 7) rfl)),
  List.forall_mem_cons.mpr ⟨sd_oStR 100 13 5 (by decide) (dk_100_0 (13, .astore 5, 2) (List.mem_of_getElem? (i := 8) rfl)),
  List.forall_mem_cons.mpr ⟨sd_oLdR 100 15 4 (dk_100_0 (15, .aload 4, 2) (List.mem_of_getElem? (i := 9) rfl)),
  List.forall_mem_cons.mpr ⟨sd_iconst 100 17 0 ⟨by decide, by decide⟩ (dk_100_0 (17, .iconst 0, 1) (List.mem_of_getElem? (i := 10) rfl)),
  List.forall_mem_cons.mpr ⟨sd_oLdR 100 18 5 (dk_100_0 (18, .aload 5, 2) (List.mem_of_getElem? (i := 11) rfl)),
  List.forall_mem_cons.mpr ⟨sd_iconst 100 20 0 ⟨by decide, by decide⟩ (dk_100_0 (20, .iconst 0, 1) (List.mem_of_getElem? (i := 12) rfl)),
  List.forall_mem_cons.mpr ⟨sd_oLdI_n 100 21 1 1 rfl (dk_100_0 (21, .iload_n 1, 1) (List.mem_of_getElem? (i := 13) rfl)),
  List.forall_mem_cons.mpr ⟨sd_cpy 100 22 94 (iw_100 _ zw373) (iw_100 _ zw70) (iw_100 _ zw71) (iw_100 _ zw72) (by decide) (by decide) (dk_100_0 (22, .invokestatic 94, 3) (List.mem_of_getElem? (i := 14) rfl)),
  List.forall_mem_cons.mpr ⟨sd_oLdR 100 25 4 (dk_100_0 (25, .aload 4, 2) (List.mem_of_getElem? (i := 15) rfl)),
  List.forall_mem_cons.mpr ⟨sd_oLdI_n 100 27 1 1 rfl (dk_100_0 (27, .iload_n 1, 1) (List.mem_of_getElem? (i := 16) rfl)),
  List.forall_mem_cons.mpr ⟨sd_oLdR 100 28 5 (dk_100_0 (28, .aload 5, 2) (List.mem_of_getElem? (i := 17) rfl)),
  List.forall_mem_cons.mpr ⟨sd_oLdI_n 100 30 1 1 rfl (dk_100_0 (30, .iload_n 1, 1) (List.mem_of_getElem? (i := 18) rfl)),
  List.forall_mem_cons.mpr ⟨sd_oLdI_n 100 31 2 2 rfl (dk_100_0 (31, .iload_n 2, 1) (List.mem_of_getElem? (i := 19) rfl)),
  List.forall_mem_cons.mpr ⟨sd_iadd 100 32 (dk_100_0 (32, .iadd, 1) (List.mem_of_getElem? (i := 20) rfl)),
  List.forall_mem_cons.mpr ⟨sd_oLdR 100 33 4 (dk_100_0 (33, .aload 4, 2) (List.mem_of_getElem? (i := 21) rfl)),
  List.forall_mem_cons.mpr ⟨sd_alen 100 35 10 ⟨by decide, by decide⟩ (dk_100_0 (35, .arraylength, 1) (List.mem_of_getElem? (i := 22) rfl)),
  List.forall_mem_cons.mpr ⟨sd_oLdI_n 100 36 1 1 rfl (dk_100_0 (36, .iload_n 1, 1) (List.mem_of_getElem? (i := 23) rfl)),
  List.forall_mem_cons.mpr ⟨sd_isub 100 37 (dk_100_0 (37, .isub, 1) (List.mem_of_getElem? (i := 24) rfl)),
  List.forall_mem_cons.mpr ⟨sd_cpy 100 38 94 (iw_100 _ zw373) (iw_100 _ zw70) (iw_100 _ zw71) (iw_100 _ zw72) (by decide) (by decide) (dk_100_0 (38, .invokestatic 94, 3) (List.mem_of_getElem? (i := 25) rfl)),
  List.forall_mem_cons.mpr ⟨sd_oLdR_n 100 41 0 0 rfl (dk_100_0 (41, .aload_n 0, 1) (List.mem_of_getElem? (i := 26) rfl)),
  List.forall_mem_cons.mpr ⟨sd_oGetI 100 42 7 3 100 RX6 TX6 23 rfl ⟨by decide, by decide⟩ rfl (by decide) rfl (fun w h => iw_100 w (uz_6 w h)) rfl (iw_100 _ zw374) (dk_100_0 (42, .getfield 100, 3) (List.mem_of_getElem? (i := 27) rfl)),
  List.forall_mem_cons.mpr ⟨sd_oLdI_n 100 45 2 2 rfl (dk_100_0 (45, .iload_n 2, 1) (List.mem_of_getElem? (i := 28) rfl)),
  List.forall_mem_cons.mpr ⟨sd_iadd 100 46 (dk_100_0 (46, .iadd, 1) (List.mem_of_getElem? (i := 29) rfl)),
  List.forall_mem_cons.mpr ⟨sd_oLdR_n 100 47 0 0 rfl (dk_100_0 (47, .aload_n 0, 1) (List.mem_of_getElem? (i := 30) rfl)),
  List.forall_mem_cons.mpr ⟨sd_oGetR 100 48 7 4 13 RX6 TX6 23 rfl ⟨by decide, by decide⟩ rfl (by decide) rfl (fun w h => iw_100 w (uz_6 w h)) rfl (iw_100 _ zw334) (dk_100_0 (48, .getfield 13, 3) (List.mem_of_getElem? (i := 31) rfl)),
  List.forall_mem_cons.mpr ⟨sd_alen 100 51 10 ⟨by decide, by decide⟩ (dk_100_0 (51, .arraylength, 1) (List.mem_of_getElem? (i := 32) rfl)),
  List.forall_mem_cons.mpr ⟨sd_icmp_le 100 52 36 88 (by decide) (dk_100_0 (52, .if_icmp .le 36, 3) (List.mem_of_getElem? (i := 33) rfl)),
  List.forall_mem_cons.mpr ⟨sd_iconst 100 55 2 ⟨by decide, by decide⟩ (dk_100_0 (55, .iconst 2, 1) (List.mem_of_getElem? (i := 34) rfl)),
  List.forall_mem_cons.mpr ⟨sd_oLdR_n 100 56 0 0 rfl (dk_100_0 (56, .aload_n 0, 1) (List.mem_of_getElem? (i := 35) rfl)),
  List.forall_mem_cons.mpr ⟨sd_oGetI 100 57 7 3 100 RX6 TX6 23 rfl ⟨by decide, by decide⟩ rfl (by decide) rfl (fun w h => iw_100 w (uz_6 w h)) rfl (iw_100 _ zw374) (dk_100_0 (57, .getfield 100, 3) (List.mem_of_getElem? (i := 36) rfl)),
  List.forall_mem_cons.mpr ⟨sd_oLdI_n 100 60 2 2 rfl (dk_100_0 (60, .iload_n 2, 1) (List.mem_of_getElem? (i := 37) rfl)),
  List.forall_mem_cons.mpr ⟨sd_iadd 100 61 (dk_100_0 (61, .iadd, 1) (List.mem_of_getElem? (i := 38) rfl)),
  List.forall_mem_cons.mpr ⟨sd_imul 100 62 (dk_100_0 (62, .imul, 1) (List.mem_of_getElem? (i := 39) rfl)),
  List.forall_mem_cons.mpr ⟨sd_newA 100 63 10 .int (Or.inl ⟨rfl, rfl⟩) (iw_100 _ zw22) (dk_100_1 (63, .newarray .int, 2) (List.mem_of_getElem? (i := 0) rfl)),
  fun _ h => nomatch h⟩⟩⟩⟩⟩⟩⟩⟩⟩⟩⟩⟩⟩⟩⟩⟩⟩⟩⟩⟩⟩⟩⟩⟩⟩⟩⟩⟩⟩⟩⟩⟩⟩⟩⟩⟩⟩⟩⟩⟩⟩
def tb_100_1 : List (Nat × Op1) := [(65, oStR 6 2), (67, oLdR 0 1), (68, oGetR 7 4), (71, oCI 0 1), (72, oLdR 6 2), (74, oCI 0 1), (75, oLdR 0 1), (76, oGetI 7 3), (79, oCpy), (82, oLdR 0 1), (83, oLdR 6 2), (85, oPutR 7 4), (88, oCI 0 1), (89, oStI 6 2), (91, oLdI 6 2), (93, oLdI 2 1), (94, oCge 137), (97, oLdR 0 1), (98, oGetR 7 4), (101, oLdR 0 1), (102, oGetI 7 3), (105, oLdI 3 1), (106, oLdI 6 2), (108, oAdd), (109, oCI 26 2), (111, oRem), (112, oAStI), (113, oLdR 5 2), (115, oLdI 1 1), (116, oLdI 6 2), (118, oAdd), (119, oLdR 0 1), (120, oDup), (121, oGetI 7 3), (124, oDupX1), (125, oCI 1 1), (126, oAdd), (127, oPutI 7 3)]
theorem sm_100_1 : ∀ q ∈ tb_100_1, SM GwP MdP D A l 100 q.1 q.2 :=
  List.forall_mem_cons.mpr ⟨sd_oStR 100 65 6 (by decide) (dk_100_1 (65, .astore 6, 2) (List.mem_of_getElem? (i := 1) rfl)),
  List.forall_mem_cons.mpr ⟨sd_oLdR_n 100 67 0 0 rfl (dk_100_1 (67, .aload_n 0, 1) (List.mem_of_getElem? (i := 2) rfl)),
  List.forall_mem_cons.mpr ⟨sd_oGetR 100 68 7 4 13 RX6 TX6 23 rfl ⟨by decide, by decide⟩ rfl (by decide) rfl (fun w h => iw_100 w (uz_6 w h)) rfl (iw_100 _ zw334) (dk_100_1 (68, .getfield 13, 3) (List.mem_of_getElem? (i := 3) rfl)),
  List.forall_mem_cons.mpr ⟨sd_iconst 100 71 0 ⟨by decide, by decide⟩ (dk_100_1 (71, .iconst 0, 1) (List.mem_of_getElem? (i := 4) rfl)),
  List.forall_mem_cons.mpr ⟨sd_oLdR 100 72 6 (dk_100_1 (72, .aload 6, 2) (List.mem_of_getElem? (i := 5) rfl)),
  List.forall_mem_cons.mpr ⟨sd_iconst 100 74 0 ⟨by decide, by decide⟩ (dk_100_1 (74, .iconst 0, 1) (List.mem_of_getElem? (i := 6) rfl)),
  List.forall_mem_cons.mpr ⟨sd_oLdR_n 100 75 0 0 rfl (dk_100_1 (75, .aload_n 0, 1) (List.mem_of_getElem? (i := 7) rfl)),
  List.forall_mem_cons.mpr ⟨sd_oGetI 100 76 7 3 100 RX6 TX6 23 rfl ⟨by decide, by decide⟩ rfl (by decide) rfl (fun w h => iw_100 w (uz_6 w h)) rfl (iw_100 _ zw374) (dk_100_1 (76, .getfield 100, 3) (List.mem_of_getElem? (i := 8) rfl)),
  List.forall_mem_cons.mpr ⟨sd_cpy 100 79 94 (iw_100 _ zw373) (iw_100 _ zw70) (iw_100 _ zw71) (iw_100 _ zw72) (by decide) (by decide) (dk_100_1 (79, .invokestatic 94, 3) (List.mem_of_getElem? (i := 9) rfl)),
  List.forall_mem_cons.mpr ⟨sd_oLdR_n 100 82 0 0 rfl (dk_100_1 (82, .aload_n 0, 1) (List.mem_of_getElem? (i := 10) rfl)),
  List.forall_mem_cons.mpr ⟨sd_oLdR 100 83 6 (dk_100_1 (83, .aload 6, 2) (List.mem_of_getElem? (i := 11) rfl)),
  List.forall_mem_cons.mpr ⟨sd_oPutR 100 85 7 4 13 RX6 TX6 23 rfl ⟨by decide, by decide⟩ rfl (by decide) rfl (fun w h => iw_100 w (uz_6 w h)) rfl tyX6 tyX6_ok nmX6 (Or.inr ⟨_, rfl⟩) rfl (iw_100 _ zw334) (dk_100_1 (85, .putfield 13, 3) (List.mem_of_getElem? (i := 12) rfl)),
  List.forall_mem_cons.mpr ⟨sd_iconst 100 88 0 ⟨by decide, by decide⟩ (dk_100_1 (88, .iconst 0, 1) (List.mem_of_getElem? (i := 13) rfl)),
  List.forall_mem_cons.mpr ⟨sd_oStI 100 89 6 (by decide) (dk_100_1 (89, .istore 6, 2) (List.mem_of_getElem? (i := 14) rfl)),
  List.forall_mem_cons.mpr ⟨sd_oLdI 100 91 6 (dk_100_1 (91, .iload 6, 2) (List.mem_of_getElem? (i := 15) rfl)),
  List.forall_mem_cons.mpr ⟨sd_oLdI_n 100 93 2 2 rfl (dk_100_1 (93, .iload_n 2, 1) (List.mem_of_getElem? (i := 16) rfl)),
  List.forall_mem_cons.mpr ⟨sd_icmp_ge 100 94 43 137 (by decide) (dk_100_1 (94, .if_icmp .ge 43, 3) (List.mem_of_getElem? (i := 17) rfl)),
  List.forall_mem_cons.mpr ⟨sd_oLdR_n 100 97 0 0 rfl (dk_100_1 (97, .aload_n 0, 1) (List.mem_of_getElem? (i := 18) rfl)),
  List.forall_mem_cons.mpr ⟨sd_oGetR 100 98 7 4 13 RX6 TX6 23 rfl ⟨by decide, by decide⟩ rfl (by decide) rfl (fun w h => iw_100 w (uz_6 w h)) rfl (iw_100 _ zw334) (dk_100_1 (98, .getfield 13, 3) (List.mem_of_getElem? (i := 19) rfl)),
  List.forall_mem_cons.mpr ⟨sd_oLdR_n 100 101 0 0 rfl (dk_100_1 (101, .aload_n 0, 1) (List.mem_of_getElem? (i := 20) rfl)),
  List.forall_mem_cons.mpr ⟨sd_oGetI 100 102 7 3 100 RX6 TX6 23 rfl ⟨by decide, by decide⟩ rfl (by decide) rfl (fun w h => iw_100 w (uz_6 w h)) rfl (iw_100 _ zw374) (dk_100_1 (102, .getfield 100, 3) (List.mem_of_getElem? (i := 21) rfl)),
  List.forall_mem_cons.mpr ⟨sd_oLdI_n 100 105 3 3 rfl (dk_100_1 (105, .iload_n 3, 1) (List.mem_of_getElem? (i := 22) rfl)),
  List.forall_mem_cons.mpr ⟨sd_oLdI 100 106 6 (dk_100_1 (106, .iload 6, 2) (List.mem_of_getElem? (i := 23) rfl)),
  List.forall_mem_cons.mpr ⟨sd_iadd 100 108 (dk_100_1 (108, .iadd, 1) (List.mem_of_getElem? (i := 24) rfl)),
  List.forall_mem_cons.mpr ⟨sd_bipush 100 109 26 ⟨by decide, by decide⟩ (by decide) (dk_100_1 (109, .bipush 26, 2) (List.mem_of_getElem? (i := 25) rfl)),
  List.forall_mem_cons.mpr ⟨sd_irem 100 111 (dk_100_1 (111, .irem, 1) (List.mem_of_getElem? (i := 26) rfl)),
  List.forall_mem_cons.mpr ⟨sd_iast 100 112 (dk_100_1 (112, .iastore, 1) (List.mem_of_getElem? (i := 27) rfl)),
  List.forall_mem_cons.mpr ⟨sd_oLdR 100 113 5 (dk_100_1 (113, .aload 5, 2) (List.mem_of_getElem? (i := 28) rfl)),
  List.forall_mem_cons.mpr ⟨sd_oLdI_n 100 115 1 1 rfl (dk_100_1 (115, .iload_n 1, 1) (List.mem_of_getElem? (i := 29) rfl)),
  List.forall_mem_cons.mpr ⟨sd_oLdI 100 116 6 (dk_100_1 (116, .iload 6, 2) (List.mem_of_getElem? (i := 30) rfl)),
  List.forall_mem_cons.mpr ⟨sd_iadd 100 118 (dk_100_1 (118, .iadd, 1) (List.mem_of_getElem? (i := 31) rfl)),
  List.forall_mem_cons.mpr ⟨sd_oLdR_n 100 119 0 0 rfl (dk_100_1 (119, .aload_n 0, 1) (List.mem_of_getElem? (i := 32) rfl)),
  List.forall_mem_cons.mpr ⟨sd_dup 100 120 (dk_100_1 (120, .dup, 1) (List.mem_of_getElem? (i := 33) rfl)),
  List.forall_mem_cons.mpr ⟨sd_oGetI 100 121 7 3 100 RX6 TX6 23 rfl ⟨by decide, by decide⟩ rfl (by decide) rfl (fun w h => iw_100 w (uz_6 w h)) rfl (iw_100 _ zw374) (dk_100_1 (121, .getfield 100, 3) (List.mem_of_getElem? (i := 34) rfl)),
  List.forall_mem_cons.mpr ⟨sd_dup_x1 100 124 (dk_100_1 (124, .dup_x1, 1) (List.mem_of_getElem? (i := 35) rfl)),
  List.forall_mem_cons.mpr ⟨sd_iconst 100 125 1 ⟨by decide, by decide⟩ (dk_100_1 (125, .iconst 1, 1) (List.mem_of_getElem? (i := 36) rfl)),
  List.forall_mem_cons.mpr ⟨sd_iadd 100 126 (dk_100_1 (126, .iadd, 1) (List.mem_of_getElem? (i := 37) rfl)),
  List.forall_mem_cons.mpr ⟨sd_oPutI 100 127 7 3 100 RX6 TX6 23 rfl ⟨by decide, by decide⟩ rfl (by decide) rfl (fun w h => iw_100 w (uz_6 w h)) rfl tyX6 tyX6_ok nmX6 rfl rfl (iw_100 _ zw374) (dk_100_1 (127, .putfield 100, 3) (List.mem_of_getElem? (i := 38) rfl)),
  fun _ h => nomatch h⟩⟩⟩⟩⟩⟩⟩⟩⟩⟩⟩⟩⟩⟩⟩⟩⟩⟩⟩⟩⟩⟩⟩⟩⟩⟩⟩⟩⟩⟩⟩⟩⟩⟩⟩⟩⟩⟩
def tb_100_2 : List (Nat × Op1) := [(130, oAStI), (131, oInc 6 1), (134, oGoto 91), (137, oLdR 0 1), (138, oGetR 7 5), (141, oLdR 0 1), (142, oDup), (143, oGetI 7 6), (146, oCI 1 1), (147, oAdd), (148, oDupX1), (149, oPutI 7 6), (152, oLdR 5 2), (154, oAStR 14 10), (155, oCI 0 1), (156, oStI 6 2), (158, oLdI 6 2), (160, oLdR 0 1), (161, oGetI 7 7), (164, oCge 251), (167, oLdR 0 1), (168, oGetR 7 11), (171, oLdI 6 2), (173, oALdI 10), (174, oLdI 6 2), (176, oCeq 182), (179, oGoto 245), (182, oLdR 0 1), (183, oGetR 7 14), (186, oLdI 6 2), (188, oDup2), (189, oALdI 10), (190, oLdI 1 1), (191, oLdR 0 1)]
theorem sm_100_2 : ∀ q ∈ tb_100_2, SM GwP MdP D A l 100 q.1 q.2 :=
  List.forall_mem_cons.mpr ⟨sd_iast 100 130 (dk_100_1 (130, .iastore, 1) (List.mem_of_getElem? (i := 39) rfl)),
  List.forall_mem_cons.mpr ⟨sd_iinc 100 131 6 1 (by decide) (dk_100_2 (131, .iinc 6 1, 3) (List.mem_of_getElem? (i := 0) rfl)),
  List.forall_mem_cons.mpr ⟨sd_goto 100 134 (-43) 91 (by decide) (dk_100_2 (134, .goto (-43), 3) (List.mem_of_getElem? (i := 1) rfl)),
  List.forall_mem_cons.mpr ⟨sd_oLdR_n 100 137 0 0 rfl (dk_100_2 (137, .aload_n 0, 1) (List.mem_of_getElem? (i := 2) rfl)),
  List.forall_mem_cons.mpr ⟨sd_oGetR 100 138 7 5 18 RX6 TX6 23 rfl ⟨by decide, by decide⟩ rfl (by decide) rfl (fun w h => iw_100 w (uz_6 w h)) rfl (iw_100 _ zw336) (dk_100_2 (138, .getfield 18, 3) (List.mem_of_getElem? (i := 3) rfl)),
  List.forall_mem_cons.mpr ⟨sd_oLdR_n 100 141 0 0 rfl (dk_100_2 (141, .aload_n 0, 1) (List.mem_of_getElem? (i := 4) rfl)),
  List.forall_mem_cons.mpr ⟨sd_dup 100 142 (dk_100_2 (142, .dup, 1) (List.mem_of_getElem? (i := 5) rfl)),
  List.forall_mem_cons.mpr ⟨sd_oGetI 100 143 7 6 79 RX6 TX6 23 rfl ⟨by decide, by decide⟩ rfl (by decide) rfl (fun w h => iw_100 w (uz_6 w h)) rfl (iw_100 _ zw360) (dk_100_2 (143, .getfield 79, 3) (List.mem_of_getElem? (i := 6) rfl)),
  List.forall_mem_cons.mpr ⟨sd_iconst 100 146 1 ⟨by decide, by decide⟩ (dk_100_2 (146, .iconst 1, 1) (List.mem_of_getElem? (i := 7) rfl)),
  List.forall_mem_cons.mpr ⟨sd_iadd 100 147 (dk_100_2 (147, .iadd, 1) (List.mem_of_getElem? (i := 8) rfl)),
  List.forall_mem_cons.mpr ⟨sd_dup_x1 100 148 (dk_100_2 (148, .dup_x1, 1) (List.mem_of_getElem? (i := 9) rfl)),
  List.forall_mem_cons.mpr ⟨sd_oPutI 100 149 7 6 79 RX6 TX6 23 rfl ⟨by decide, by decide⟩ rfl (by decide) rfl (fun w h => iw_100 w (uz_6 w h)) rfl tyX6 tyX6_ok nmX6 rfl rfl (iw_100 _ zw360) (dk_100_2 (149, .putfield 79, 3) (List.mem_of_getElem? (i := 10) rfl)),
  List.forall_mem_cons.mpr ⟨sd_oLdR 100 152 5 (dk_100_2 (152, .aload 5, 2) (List.mem_of_getElem? (i := 11) rfl)),
  List.forall_mem_cons.mpr ⟨sd_aastA 100 154 (dk_100_2 (154, .aastore, 1) (List.mem_of_getElem? (i := 12) rfl)),
  List.forall_mem_cons.mpr ⟨sd_iconst 100 155 0 ⟨by decide, by decide⟩ (dk_100_2 (155, .iconst 0, 1) (List.mem_of_getElem? (i := 13) rfl)),
  List.forall_mem_cons.mpr ⟨sd_oStI 100 156 6 (by decide) (dk_100_2 (156, .istore 6, 2) (List.mem_of_getElem? (i := 14) rfl)),
  List.forall_mem_cons.mpr ⟨sd_oLdI 100 158 6 (dk_100_2 (158, .iload 6, 2) (List.mem_of_getElem? (i := 15) rfl)),
  List.forall_mem_cons.mpr ⟨sd_oLdR_n 100 160 0 0 rfl (dk_100_2 (160, .aload_n 0, 1) (List.mem_of_getElem? (i := 16) rfl)),
  List.forall_mem_cons.mpr ⟨sd_oGetI 100 161 7 7 76 RX6 TX6 23 rfl ⟨by decide, by decide⟩ rfl (by decide) rfl (fun w h => iw_100 w (uz_6 w h)) rfl (iw_100 _ zw359) (dk_100_2 (161, .getfield 76, 3) (List.mem_of_getElem? (i := 17) rfl)),
  List.forall_mem_cons.mpr ⟨sd_icmp_ge 100 164 87 251 (by decide) (dk_100_2 (164, .if_icmp .ge 87, 3) (List.mem_of_getElem? (i := 18) rfl)),
  List.forall_mem_cons.mpr ⟨sd_oLdR_n 100 167 0 0 rfl (dk_100_2 (167, .aload_n 0, 1) (List.mem_of_getElem? (i := 19) rfl)),
  List.forall_mem_cons.mpr ⟨sd_oGetR 100 168 7 11 30 RX6 TX6 23 rfl ⟨by decide, by decide⟩ rfl (by decide) rfl (fun w h => iw_100 w (uz_6 w h)) rfl (iw_100 _ zw340) (dk_100_2 (168, .getfield 30, 3) (List.mem_of_getElem? (i := 20) rfl)),
  List.forall_mem_cons.mpr ⟨sd_oLdI 100 171 6 (dk_100_2 (171, .iload 6, 2) (List.mem_of_getElem? (i := 21) rfl)),
  List.forall_mem_cons.mpr ⟨sd_iald 100 173 (dk_100_2 (173, .iaload, 1) (List.mem_of_getElem? (i := 22) rfl)),
  List.forall_mem_cons.mpr ⟨sd_oLdI 100 174 6 (dk_100_2 (174, .iload 6, 2) (List.mem_of_getElem? (i := 23) rfl)),
  List.forall_mem_cons.mpr ⟨sd_icmp_eq 100 176 6 182 (by decide) (dk_100_2 (176, .if_icmp .eq 6, 3) (List.mem_of_getElem? (i := 24) rfl)),
  List.forall_mem_cons.mpr ⟨sd_goto 100 179 66 245 (by decide) (dk_100_2 (179, .goto 66, 3) (List.mem_of_getElem? (i := 25) rfl)),
  List.forall_mem_cons.mpr ⟨sd_oLdR_n 100 182 0 0 rfl (dk_100_2 (182, .aload_n 0, 1) (List.mem_of_getElem? (i := 26) rfl)),
  List.forall_mem_cons.mpr ⟨sd_oGetR 100 183 7 14 39 RX6 TX6 23 rfl ⟨by decide, by decide⟩ rfl (by decide) rfl (fun w h => iw_100 w (uz_6 w h)) rfl (iw_100 _ zw343) (dk_100_2 (183, .getfield 39, 3) (List.mem_of_getElem? (i := 27) rfl)),
  List.forall_mem_cons.mpr ⟨sd_oLdI 100 186 6 (dk_100_2 (186, .iload 6, 2) (List.mem_of_getElem? (i := 28) rfl)),
  List.forall_mem_cons.mpr ⟨sd_dup2 100 188 (dk_100_2 (188, .dup2, 1) (List.mem_of_getElem? (i := 29) rfl)),
  List.forall_mem_cons.mpr ⟨sd_iald 100 189 (dk_100_2 (189, .iaload, 1) (List.mem_of_getElem? (i := 30) rfl)),
  List.forall_mem_cons.mpr ⟨sd_oLdI_n 100 190 1 1 rfl (dk_100_2 (190, .iload_n 1, 1) (List.mem_of_getElem? (i := 31) rfl)),
  List.forall_mem_cons.mpr ⟨sd_oLdR_n 100 191 0 0 rfl (dk_100_2 (191, .aload_n 0, 1) (List.mem_of_getElem? (i := 32) rfl)),
  fun _ h => nomatch h⟩⟩⟩⟩⟩⟩⟩⟩⟩⟩⟩⟩⟩⟩⟩⟩⟩⟩⟩⟩⟩⟩⟩⟩⟩⟩⟩⟩⟩⟩⟩⟩⟩⟩
def tb_100_3 : List (Nat × Op1) := [(192, oGetR 7 13), (195, oLdI 6 2), (197, oALdI 10), (198, oCle 212), (201, oLdI 1 1), (202, oLdR 0 1), (203, oGetR 7 14), (206, oLdI 6 2), (208, oALdI 10), (209, oCge 216), (212, oLdI 2 1), (213, oGoto 217), (216, oCI 0 1), (217, oAdd), (218, oAStI), (219, oLdR 0 1), (220, oGetR 7 13), (223, oLdI 6 2), (225, oDup2), (226, oALdI 10), (227, oLdI 1 1), (228, oLdR 0 1), (229, oGetR 7 13), (232, oLdI 6 2), (234, oALdI 10), (235, oCgt 242), (238, oLdI 2 1), (239, oGoto 243), (242, oCI 0 1), (243, oAdd), (244, oAStI), (245, oInc 6 1), (248, oGoto 158), (251, oRetV)]
theorem sm_100_3 : ∀ q ∈ tb_100_3, SM GwP MdP D A l 100 q.1 q.2 :=
  List.forall_mem_cons.mpr ⟨sd_oGetR 100 192 7 13 36 RX6 TX6 23 rfl ⟨by decide, by decide⟩ rfl (by decide) rfl (fun w h => iw_100 w (uz_6 w h)) rfl (iw_100 _ zw342) (dk_100_2 (192, .getfield 36, 3) (List.mem_of_getElem? (i := 33) rfl)),
  List.forall_mem_cons.mpr ⟨sd_oLdI 100 195 6 (dk_100_2 (195, .iload 6, 2) (List.mem_of_getElem? (i := 34) rfl)),
  List.forall_mem_cons.mpr ⟨sd_iald 100 197 (dk_100_2 (197, .iaload, 1) (List.mem_of_getElem? (i := 35) rfl)),
  List.forall_mem_cons.mpr ⟨sd_icmp_le 100 198 14 212 (by decide) (dk_100_2 (198, .if_icmp .le 14, 3) (List.mem_of_getElem? (i := 36) rfl)),
  List.forall_mem_cons.mpr ⟨sd_oLdI_n 100 201 1 1 rfl (dk_100_2 (201, .iload_n 1, 1) (List.mem_of_getElem? (i := 37) rfl)),
  List.forall_mem_cons.mpr ⟨sd_oLdR_n 100 202 0 0 rfl (dk_100_2 (202, .aload_n 0, 1) (List.mem_of_getElem? (i := 38) rfl)),
  List.forall_mem_cons.mpr ⟨sd_oGetR 100 203 7 14 39 RX6 TX6 23 rfl ⟨by decide, by decide⟩ rfl (by decide) rfl (fun w h => iw_100 w (uz_6 w h)) rfl (iw_100 _ zw343) (dk_100_2 (203, .getfield 39, 3) (List.mem_of_getElem? (i := 39) rfl)),
  List.forall_mem_cons.mpr ⟨sd_oLdI 100 206 6 (dk_100_3 (206, .iload 6, 2) (List.mem_of_getElem? (i := 0) rfl)),
  List.forall_mem_cons.mpr ⟨sd_iald 100 208 (dk_100_3 (208, .iaload, 1) (List.mem_of_getElem? (i := 1) rfl)),
  List.forall_mem_cons.mpr ⟨sd_icmp_ge 100 209 7 216 (by decide) (dk_100_3 (209, .if_icmp .ge 7, 3) (List.mem_of_getElem? (i := 2) rfl)),
  List.forall_mem_cons.mpr ⟨sd_oLdI_n 100 212 2 2 rfl (dk_100_3 (212, .iload_n 2, 1) (List.mem_of_getElem? (i := 3) rfl)),
  List.forall_mem_cons.mpr ⟨sd_goto 100 213 4 217 (by decide) (dk_100_3 (213, .goto 4, 3) (List.mem_of_getElem? (i := 4) rfl)),
  List.forall_mem_cons.mpr ⟨sd_iconst 100 216 0 ⟨by decide, by decide⟩ (dk_100_3 (216, .iconst 0, 1) (List.mem_of_getElem? (i := 5) rfl)),
  List.forall_mem_cons.mpr ⟨sd_iadd 100 217 (dk_100_3 (217, .iadd, 1) (List.mem_of_getElem? (i := 6) rfl)),
  List.forall_mem_cons.mpr ⟨sd_iast 100 218 (dk_100_3 (218, .iastore, 1) (List.mem_of_getElem? (i := 7) rfl)),
  List.forall_mem_cons.mpr ⟨sd_oLdR_n 100 219 0 0 rfl (dk_100_3 (219, .aload_n 0, 1) (List.mem_of_getElem? (i := 8) rfl)),
  List.forall_mem_cons.mpr ⟨sd_oGetR 100 220 7 13 36 RX6 TX6 23 rfl ⟨by decide, by decide⟩ rfl (by decide) rfl (fun w h => iw_100 w (uz_6 w h)) rfl (iw_100 _ zw342) (dk_100_3 (220, .getfield 36, 3) (List.mem_of_getElem? (i := 9) rfl)),
  List.forall_mem_cons.mpr ⟨sd_oLdI 100 223 6 (dk_100_3 (223, .iload 6, 2) (List.mem_of_getElem? (i := 10) rfl)),
  List.forall_mem_cons.mpr ⟨sd_dup2 100 225 (dk_100_3 (225, .dup2, 1) (List.mem_of_getElem? (i := 11) rfl)),
  List.forall_mem_cons.mpr ⟨sd_iald 100 226 (dk_100_3 (226, .iaload, 1) (List.mem_of_getElem? (i := 12) rfl)),
  List.forall_mem_cons.mpr ⟨sd_oLdI_n 100 227 1 1 rfl (dk_100_3 (227, .iload_n 1, 1) (List.mem_of_getElem? (i := 13) rfl)),
  List.forall_mem_cons.mpr ⟨sd_oLdR_n 100 228 0 0 rfl (dk_100_3 (228, .aload_n 0, 1) (List.mem_of_getElem? (i := 14) rfl)),
  List.forall_mem_cons.mpr ⟨sd_oGetR 100 229 7 13 36 RX6 TX6 23 rfl ⟨by decide, by decide⟩ rfl (by decide) rfl (fun w h => iw_100 w (uz_6 w h)) rfl (iw_100 _ zw342) (dk_100_3 (229, .getfield 36, 3) (List.mem_of_getElem? (i := 15) rfl)),
  List.forall_mem_cons.mpr ⟨sd_oLdI 100 232 6 (dk_100_3 (232, .iload 6, 2) (List.mem_of_getElem? (i := 16) rfl)),
  List.forall_mem_cons.mpr ⟨sd_iald 100 234 (dk_100_3 (234, .iaload, 1) (List.mem_of_getElem? (i := 17) rfl)),
  List.forall_mem_cons.mpr ⟨sd_icmp_gt 100 235 7 242 (by decide) (dk_100_3 (235, .if_icmp .gt 7, 3) (List.mem_of_getElem? (i := 18) rfl)),
  List.forall_mem_cons.mpr ⟨sd_oLdI_n 100 238 2 2 rfl (dk_100_3 (238, .iload_n 2, 1) (List.mem_of_getElem? (i := 19) rfl)),
  List.forall_mem_cons.mpr ⟨sd_goto 100 239 4 243 (by decide) (dk_100_3 (239, .goto 4, 3) (List.mem_of_getElem? (i := 20) rfl)),
  List.forall_mem_cons.mpr ⟨sd_iconst 100 242 0 ⟨by decide, by decide⟩ (dk_100_3 (242, .iconst 0, 1) (List.mem_of_getElem? (i := 21) rfl)),
  List.forall_mem_cons.mpr ⟨sd_iadd 100 243 (dk_100_3 (243, .iadd, 1) (List.mem_of_getElem? (i := 22) rfl)),
  List.forall_mem_cons.mpr ⟨sd_iast 100 244 (dk_100_3 (244, .iastore, 1) (List.mem_of_getElem? (i := 23) rfl)),
  List.forall_mem_cons.mpr ⟨sd_iinc 100 245 6 1 (by decide) (dk_100_3 (245, .iinc 6 1, 3) (List.mem_of_getElem? (i := 24) rfl)),
  List.forall_mem_cons.mpr ⟨sd_goto 100 248 (-90) 158 (by decide) (dk_100_3 (248, .goto (-90), 3) (List.mem_of_getElem? (i := 25) rfl)),
  List.forall_mem_cons.mpr ⟨sd_vret 100 251 rfl (dk_100_3 (251, .return_, 1) (List.mem_of_getElem? (i := 26) rfl)),
  fun _ h => nomatch h⟩⟩⟩⟩⟩⟩⟩⟩⟩⟩⟩⟩⟩⟩⟩⟩⟩⟩⟩⟩⟩⟩⟩⟩⟩⟩⟩⟩⟩⟩⟩⟩⟩⟩
def tb_100 : List (List (Nat × Op1)) := [tb_100_0, tb_100_1, tb_100_2, tb_100_3]
theorem sm_100 : ∀ t ∈ tb_100, ∀ q ∈ t, SM GwP MdP D A l 100 q.1 q.2 := List.forall_mem_cons.mpr ⟨sm_100_0, List.forall_mem_cons.mpr ⟨sm_100_1, List.forall_mem_cons.mpr ⟨sm_100_2, List.forall_mem_cons.mpr ⟨sm_100_3, fun _ h => nomatch h⟩⟩⟩⟩
-- 101: MarginaliaModel.cut(II)V
def dl_101_0 : List (Nat × Instr × Nat) := [(0, .aload_n 0, 1), (1, .invokevirtual 90, 3), (4, .astore_n 3, 1), (5, .aload_n 3, 1), (6, .arraylength, 1), (7, .iload_n 2, 1), (8, .isub, 1), (9, .newarray .int, 2), (11, .astore 4, 2), (13, .aload_n 3, 1), (14, .iconst 0, 1), (15, .aload 4, 2), (17, .iconst 0, 1), (18, .iload_n 1, 1), (19, .invokestatic 94, 3), (22, .aload_n 3, 1), (23, .iload_n 1, 1), (24, .iload_n 2, 1), (25, .iadd, 1), (26, .aload 4, 2), (28, .iload_n 1, 1), (29, .aload 4, 2), (31, .arraylength, 1), (32, .iload_n 1, 1), (33, .isub, 1), (34, .invokestatic 94, 3), (37, .aload_n 0, 1), (38, .getfield 18, 3), (41, .aload_n 0, 1), (42, .dup, 1), (43, .getfield 79, 3), (46, .iconst 1, 1), (47, .iadd, 1), (48, .dup_x1, 1), (49, .putfield 79, 3), (52, .aload 4, 2), (54, .aastore, 1), (55, .iconst 0, 1), (56, .istore 5, 2), (58, .iload 5, 2)]
theorem dk_101_0 : ∀ q ∈ dl_101_0, decode (mCod (MdP 101)) q.1 = .ok q.2 := by
  rw [show mCod (MdP 101) = cX6_cut from rfl]
  decide +kernel
def dl_101_1 : List (Nat × Instr × Nat) := [(60, .aload_n 0, 1), (61, .getfield 76, 3), (64, .if_icmp .ge 78, 3), (67, .aload_n 0, 1), (68, .getfield 30, 3), (71, .iload 5, 2), (73, .iaload, 1), (74, .iload 5, 2), (76, .if_icmp .eq 6, 3), (79, .goto 57, 3), (82, .aload_n 0, 1), (83, .getfield 36, 3), (86, .iload 5, 2), (88, .dup2, 1), (89, .iaload, 1), (90, .iconst 0, 1), (91, .iload_n 2, 1), (92, .aload_n 0, 1), (93, .getfield 36, 3), (96, .iload 5, 2), (98, .iaload, 1), (99, .iload_n 1, 1), (100, .isub, 1), (101, .invokestatic 103, 3), (104, .invokestatic 109, 3), (107, .isub, 1), (108, .iastore, 1), (109, .aload_n 0, 1), (110, .getfield 39, 3), (113, .iload 5, 2), (115, .dup2, 1), (116, .iaload, 1), (117, .iconst 0, 1), (118, .iload_n 2, 1), (119, .aload_n 0, 1), (120, .getfield 39, 3), (123, .iload 5, 2), (125, .iaload, 1), (126, .iload_n 1, 1), (127, .isub, 1)]
theorem dk_101_1 : ∀ q ∈ dl_101_1, decode (mCod (MdP 101)) q.1 = .ok q.2 := by
  rw [show mCod (MdP 101) = cX6_cut from rfl]
  decide +kernel
def dl_101_2 : List (Nat × Instr × Nat) := [(128, .invokestatic 103, 3), (131, .invokestatic 109, 3), (134, .isub, 1), (135, .iastore, 1), (136, .iinc 5 1, 3), (139, .goto (-81), 3), (142, .return_, 1)]
theorem dk_101_2 : ∀ q ∈ dl_101_2, decode (mCod (MdP 101)) q.1 = .ok q.2 := by
  rw [show mCod (MdP 101) = cX6_cut from rfl]
  decide +kernel
def tb_101_0 : List (Nat × Op1) := [(0, oLdR 0 1), (1, oCallV 97 0 1 7 []), (4, oStR 3 1), (5, oLdR 3 1), (6, oALen 10), (7, oLdI 2 1), (8, oSub), (9, oNewA 10 2), (11, oStR 4 2), (13, oLdR 3 1), (14, oCI 0 1), (15, oLdR 4 2), (17, oCI 0 1), (18, oLdI 1 1), (19, oCpy), (22, oLdR 3 1), (23, oLdI 1 1), (24, oLdI 2 1), (25, oAdd), (26, oLdR 4 2), (28, oLdI 1 1), (29, oLdR 4 2), (31, oALen 10), (32, oLdI 1 1), (33, oSub), (34, oCpy), (37, oLdR 0 1), (38, oGetR 7 5), (41, oLdR 0 1), (42, oDup), (43, oGetI 7 6), (46, oCI 1 1), (47, oAdd), (48, oDupX1), (49, oPutI 7 6), (52, oLdR 4 2), (54, oAStR 14 10), (55, oCI 0 1), (56, oStI 5 2), (58, oLdI 5 2), (60, oLdR 0 1), (61, oGetI 7 7)]
theorem sm_101_0 : ∀ q ∈ tb_101_0, SM GwP MdP D A l 101 q.1 q.2 :=
  List.forall_mem_cons.mpr ⟨sd_oLdR_n 101 0 0 0 rfl (dk_101_0 (0, .aload_n 0, 1) (List.mem_of_getElem? (i := 0) rfl)),
  List.forall_mem_cons.mpr ⟨sd_callV 101 1 97 0 1 90 7 [] (gdV hws_101 hws_97 zw370 zw371 zw372 zw358 zw369) hws_97 rfl (by decide +kernel) rfl rfl ⟨by decide +kernel, by decide +kernel, by decide +kernel⟩ ⟨by decide, by decide⟩ (catch_nil rfl) RX6 rfl TX6 23 rfl ⟨by decide, by decide⟩ (dk_101_0 (1, .invokevirtual 90, 3) (List.mem_of_getElem? (i := 1) rfl)),
  List.forall_mem_cons.mpr ⟨sd_oStR_n 101 4 3 3 rfl (by decide) (dk_101_0 (4, .astore_n 3, 1) (List.mem_of_getElem? (i := 2) rfl)),
  List.forall_mem_cons.mpr ⟨sd_oLdR_n 101 5 3 3 rfl (dk_101_0 (5, .aload_n 3, 1) (List.mem_of_getElem? (i := 3) rfl)),
  List.forall_mem_cons.mpr ⟨sd_alen 101 6 10 ⟨by decide, by decide⟩ (dk_101_0 (6, .arraylength, 1) (List.mem_of_getElem? (i := 4) rfl)),
  List.forall_mem_cons.mpr ⟨sd_oLdI_n 101 7 2 2 rfl (dk_101_0 (7, .iload_n 2, 1) (List.mem_of_getElem? (i := 5) rfl)),
  List.forall_mem_cons.mpr ⟨sd_isub 101 8 (dk_101_0 (8, .isub, 1) (List.mem_of_getElem? (i := 6) rfl)),
  List.forall_mem_cons.mpr ⟨sd_newA 101 9 10 .int (Or.inl ⟨rfl, rfl⟩) (iw_101 _ zw22) (dk_101_0 (9, .newarray .int, 2) (List.mem_of_getElem? (i := 7) rfl)),
  List.forall_mem_cons.mpr ⟨sd_oStR 101 11 4 (by decide) (dk_101_0 (11, .astore 4, 2) (List.mem_of_getElem? (i := 8) rfl)),
  List.forall_mem_cons.mpr ⟨sd_oLdR_n 101 13 3 3 rfl (dk_101_0 (13, .aload_n 3, 1) (List.mem_of_getElem? (i := 9) rfl)),
  List.forall_mem_cons.mpr ⟨sd_iconst 101 14 0 ⟨by decide, by decide⟩ (dk_101_0 (14, .iconst 0, 1) (List.mem_of_getElem? (i := 10) rfl)),
  List.forall_mem_cons.mpr ⟨sd_oLdR 101 15 4 (dk_101_0 (15, .aload 4, 2) (List.mem_of_getElem? (i := 11) rfl)),
  List.forall_mem_cons.mpr ⟨sd_iconst 101 17 0 ⟨by decide, by decide⟩ (dk_101_0 (17, .iconst 0, 1) (List.mem_of_getElem? (i := 12) rfl)),
  List.forall_mem_cons.mpr ⟨sd_oLdI_n 101 18 1 1 rfl (dk_101_0 (18, .iload_n 1, 1) (List.mem_of_getElem? (i := 13) rfl)),
  List.forall_mem_cons.mpr ⟨sd_cpy 101 19 94 (iw_101 _ zw373) (iw_101 _ zw70) (iw_101 _ zw71) (iw_101 _ zw72) (by decide) (by decide) (dk_101_0 (19, .invokestatic 94, 3) (List.mem_of_getElem? (i := 14) rfl)),
  List.forall_mem_cons.mpr ⟨sd_oLdR_n 101 22 3 3 rfl (dk_101_0 (22, .aload_n 3, 1) (List.mem_of_getElem? (i := 15) rfl)),
  List.forall_mem_cons.mpr ⟨sd_oLdI_n 101 23 1 1 rfl (dk_101_0 (23, .iload_n 1, 1) (List.mem_of_getElem? (i := 16) rfl)),
  List.forall_mem_cons.mpr ⟨sd_oLdI_n 101 24 2 2 rfl (dk_101_0 (24, .iload_n 2, 1) (List.mem_of_getElem? (i := 17) rfl)),
  List.forall_mem_cons.mpr ⟨sd_iadd 101 25 (dk_101_0 (25, .iadd, 1) (List.mem_of_getElem? (i := 18) rfl)),
  List.forall_mem_cons.mpr ⟨sd_oLdR 101 26 4 (dk_101_0 (26, .aload 4, 2) (List.mem_of_getElem? (i := 19) rfl)),
  List.forall_mem_cons.mpr ⟨sd_oLdI_n 101 28 1 1 rfl (dk_101_0 (28, .iload_n 1, 1) (List.mem_of_getElem? (i := 20) rfl)),
  List.forall_mem_cons.mpr ⟨sd_oLdR 101 29 4 (dk_101_0 (29, .aload 4, 2) (List.mem_of_getElem? (i := 21) rfl)),
  List.forall_mem_cons.mpr ⟨sd_alen 101 31 10 ⟨by decide, by decide⟩ (dk_101_0 (31, .arraylength, 1) (List.mem_of_getElem? (i := 22) rfl)),
  List.forall_mem_cons.mpr ⟨sd_oLdI_n 101 32 1 1 rfl (dk_101_0 (32, .iload_n 1, 1) (List.mem_of_getElem? (i := 23) rfl)),
  List.forall_mem_cons.mpr ⟨sd_isub 101 33 (dk_101_0 (33, .isub, 1) (List.mem_of_getElem? (i := 24) rfl)),
  List.forall_mem_cons.mpr ⟨sd_cpy 101 34 94 (iw_101 _ zw373) (iw_101 _ zw70) (iw_101 _ zw71) (iw_101 _ zw72) (by decide) (by decide) (dk_101_0 (34, .invokestatic 94, 3) (List.mem_of_getElem? (i := 25) rfl)),
  List.forall_mem_cons.mpr ⟨sd_oLdR_n 101 37 0 0 rfl (dk_101_0 (37, .aload_n 0, 1) (List.mem_of_getElem? (i := 26) rfl)),
  List.forall_mem_cons.mpr ⟨sd_oGetR 101 38 7 5 18 RX6 TX6 23 rfl ⟨by decide, by decide⟩ rfl (by decide) rfl (fun w h => iw_101 w (uz_6 w h)) rfl (iw_101 _ zw336) (dk_101_0 (38, .getfield 18, 3) (List.mem_of_getElem? (i := 27) rfl)),
  List.forall_mem_cons.mpr ⟨sd_oLdR_n 101 41 0 0 rfl (dk_101_0 (41, .aload_n 0, 1) (List.mem_of_getElem? (i := 28) rfl)),
  List.forall_mem_cons.mpr ⟨sd_dup 101 42 (dk_101_0 (42, .dup, 1) (List.mem_of_getElem? (i := 29) rfl)),
  List.forall_mem_cons.mpr ⟨sd_oGetI 101 43 7 6 79 RX6 TX6 23 rfl ⟨by decide, by decide⟩ rfl (by decide) rfl (fun w h => iw_101 w (uz_6 w h)) rfl (iw_101 _ zw360) (dk_101_0 (43, .getfield 79, 3) (List.mem_of_getElem? (i := 30) rfl)),
  List.forall_mem_cons.mpr ⟨sd_iconst 101 46 1 ⟨by decide, by decide⟩ (dk_101_0 (46, .iconst 1, 1) (List.mem_of_getElem? (i := 31) rfl)),
  List.forall_mem_cons.mpr ⟨sd_iadd 101 47 (dk_101_0 (47, .iadd, 1) (List.mem_of_getElem? (i := 32) rfl)),
  List.forall_mem_cons.mpr ⟨sd_dup_x1 101 48 (dk_101_0 (48, .dup_x1, 1) (List.mem_of_getElem? (i := 33) rfl)),
  List.forall_mem_cons.mpr ⟨sd_oPutI 101 49 7 6 79 RX6 TX6 23 rfl ⟨by decide, by decide⟩ rfl (by decide) rfl (fun w h => iw_101 w (uz_6 w h)) rfl tyX6 tyX6_ok nmX6 rfl rfl (iw_101 _ zw360) (dk_101_0 (49, .putfield 79, 3) (List.mem_of_getElem? (i := 34) rfl)),
  List.forall_mem_cons.mpr ⟨sd_oLdR 101 52 4 (dk_101_0 (52, .aload 4, 2) (List.mem_of_getElem? (i := 35) rfl)),
  List.forall_mem_cons.mpr ⟨sd_aastA 101 54 (dk_101_0 (54, .aastore, 1) (List.mem_of_getElem? (i := 36) rfl)),
  List.forall_mem_cons.mpr ⟨sd_iconst 101 55 0 ⟨by decide, by decide⟩ (dk_101_0 (55, .iconst 0, 1) (List.mem_of_getElem? (i := 37) rfl)),
  List.forall_mem_cons.mpr ⟨sd_oStI 101 56 5 (by decide) (dk_101_0 (56, .istore 5, 2) (List.mem_of_getElem? (i := 38) rfl)),
  List.forall_mem_cons.mpr ⟨sd_oLdI 101 58 5 (dk_101_0 (58, .iload 5, 2) (List.mem_of_getElem? (i := 39) rfl)),
  List.forall_mem_cons.mpr ⟨sd_oLdR_n 101 60 0 0 rfl (dk_101_1 (60, .aload_n 0, 1) (List.mem_of_getElem? (i := 0) rfl)),
  List.forall_mem_cons.mpr ⟨sd_oGetI 101 61 7 7 76 RX6 TX6 23 rfl ⟨by decide, by decide⟩ rfl (by decide) rfl (fun w h => iw_101 w (uz_6 w h)) rfl (iw_101 _ zw359) (dk_101_1 (61, .getfield 76, 3) (List.mem_of_getElem? (i := 1) rfl)),
  fun _ h => nomatch h⟩⟩⟩⟩⟩⟩⟩⟩⟩⟩⟩⟩⟩⟩⟩⟩⟩⟩⟩⟩⟩⟩⟩⟩⟩⟩⟩⟩⟩⟩⟩⟩⟩⟩⟩⟩⟩⟩⟩⟩⟩⟩
def tb_101_1 : List (Nat × Op1) := [(64, oCge 142), (67, oLdR 0 1), (68, oGetR 7 11), (71, oLdI 5 2), (73, oALdI 10), (74, oLdI 5 2), (76, oCeq 82), (79, oGoto 136), (82, oLdR 0 1), (83, oGetR 7 13), (86, oLdI 5 2), (88, oDup2), (89, oALdI 10), (90, oCI 0 1), (91, oLdI 2 1), (92, oLdR 0 1), (93, oGetR 7 13), (96, oLdI 5 2), (98, oALdI 10), (99, oLdI 1 1), (100, oSub), (101, oMin), (104, oMax), (107, oSub), (108, oAStI), (109, oLdR 0 1), (110, oGetR 7 14), (113, oLdI 5 2), (115, oDup2), (116, oALdI 10), (117, oCI 0 1), (118, oLdI 2 1), (119, oLdR 0 1), (120, oGetR 7 14), (123, oLdI 5 2), (125, oALdI 10), (126, oLdI 1 1), (127, oSub)]
theorem sm_101_1 : ∀ q ∈ tb_101_1, SM GwP MdP D A l 101 q.1 q.2 :=
  List.forall_mem_cons.mpr ⟨sd_icmp_ge 101 64 78 142 (by decide) (dk_101_1 (64, .if_icmp .ge 78, 3) (List.mem_of_getElem? (i := 2) rfl)),
  List.forall_mem_cons.mpr ⟨sd_oLdR_n 101 67 0 0 rfl (dk_101_1 (67, .aload_n 0, 1) (List.mem_of_getElem? (i := 3) rfl)),
  List.forall_mem_cons.mpr ⟨sd_oGetR 101 68 7 11 30 RX6 TX6 23 rfl ⟨by decide, by decide⟩ rfl (by decide) rfl (fun w h => iw_101 w (uz_6 w h)) rfl (iw_101 _ zw340) (dk_101_1 (68, .getfield 30, 3) (List.mem_of_getElem? (i := 4) rfl)),
  List.forall_mem_cons.mpr ⟨sd_oLdI 101 71 5 (dk_101_1 (71, .iload 5, 2) (List.mem_of_getElem? (i := 5) rfl)),
  List.forall_mem_cons.mpr ⟨sd_iald 101 73 (dk_101_1 (73, .iaload, 1) (List.mem_of_getElem? (i := 6) rfl)),
  List.forall_mem_cons.mpr ⟨sd_oLdI 101 74 5 (dk_101_1 (74, .iload 5, 2) (List.mem_of_getElem? (i := 7) rfl)),
  List.forall_mem_cons.mpr ⟨sd_icmp_eq 101 76 6 82 (by decide) (dk_101_1 (76, .if_icmp .eq 6, 3) (List.mem_of_getElem? (i := 8) rfl)),
  List.forall_mem_cons.mpr ⟨sd_goto 101 79 57 136 (by decide) (dk_101_1 (79, .goto 57, 3) (List.mem_of_getElem? (i := 9) rfl)),
  List.forall_mem_cons.mpr ⟨sd_oLdR_n 101 82 0 0 rfl (dk_101_1 (82, .aload_n 0, 1) (List.mem_of_getElem? (i := 10) rfl)),
  List.forall_mem_cons.mpr ⟨sd_oGetR 101 83 7 13 36 RX6 TX6 23 rfl ⟨by decide, by decide⟩ rfl (by decide) rfl (fun w h => iw_101 w (uz_6 w h)) rfl (iw_101 _ zw342) (dk_101_1 (83, .getfield 36, 3) (List.mem_of_getElem? (i := 11) rfl)),
  List.forall_mem_cons.mpr ⟨sd_oLdI 101 86 5 (dk_101_1 (86, .iload 5, 2) (List.mem_of_getElem? (i := 12) rfl)),
  List.forall_mem_cons.mpr ⟨sd_dup2 101 88 (dk_101_1 (88, .dup2, 1) (List.mem_of_getElem? (i := 13) rfl)),
  List.forall_mem_cons.mpr ⟨sd_iald 101 89 (dk_101_1 (89, .iaload, 1) (List.mem_of_getElem? (i := 14) rfl)),
  List.forall_mem_cons.mpr ⟨sd_iconst 101 90 0 ⟨by decide, by decide⟩ (dk_101_1 (90, .iconst 0, 1) (List.mem_of_getElem? (i := 15) rfl)),
  List.forall_mem_cons.mpr ⟨sd_oLdI_n 101 91 2 2 rfl (dk_101_1 (91, .iload_n 2, 1) (List.mem_of_getElem? (i := 16) rfl)),
  List.forall_mem_cons.mpr ⟨sd_oLdR_n 101 92 0 0 rfl (dk_101_1 (92, .aload_n 0, 1) (List.mem_of_getElem? (i := 17) rfl)),
  List.forall_mem_cons.mpr ⟨sd_oGetR 101 93 7 13 36 RX6 TX6 23 rfl ⟨by decide, by decide⟩ rfl (by decide) rfl (fun w h => iw_101 w (uz_6 w h)) rfl (iw_101 _ zw342) (dk_101_1 (93, .getfield 36, 3) (List.mem_of_getElem? (i := 18) rfl)),
  List.forall_mem_cons.mpr ⟨sd_oLdI 101 96 5 (dk_101_1 (96, .iload 5, 2) (List.mem_of_getElem? (i := 19) rfl)),
  List.forall_mem_cons.mpr ⟨sd_iald 101 98 (dk_101_1 (98, .iaload, 1) (List.mem_of_getElem? (i := 20) rfl)),
  List.forall_mem_cons.mpr ⟨sd_oLdI_n 101 99 1 1 rfl (dk_101_1 (99, .iload_n 1, 1) (List.mem_of_getElem? (i := 21) rfl)),
  List.forall_mem_cons.mpr ⟨sd_isub 101 100 (dk_101_1 (100, .isub, 1) (List.mem_of_getElem? (i := 22) rfl)),
  List.forall_mem_cons.mpr ⟨sd_min 101 101 103 (iw_101 _ zw375) (iw_101 _ zw14) (iw_101 _ zw15) (iw_101 _ zw16) (by decide) (by decide) (dk_101_1 (101, .invokestatic 103, 3) (List.mem_of_getElem? (i := 23) rfl)),
  List.forall_mem_cons.mpr ⟨sd_max 101 104 109 (iw_101 _ zw376) (iw_101 _ zw18) (iw_101 _ zw15) (iw_101 _ zw19) (by decide) (by decide) (dk_101_1 (104, .invokestatic 109, 3) (List.mem_of_getElem? (i := 24) rfl)),
  List.forall_mem_cons.mpr ⟨sd_isub 101 107 (dk_101_1 (107, .isub, 1) (List.mem_of_getElem? (i := 25) rfl)),
  List.forall_mem_cons.mpr ⟨sd_iast 101 108 (dk_101_1 (108, .iastore, 1) (List.mem_of_getElem? (i := 26) rfl)),
  List.forall_mem_cons.mpr ⟨sd_oLdR_n 101 109 0 0 rfl (dk_101_1 (109, .aload_n 0, 1) (List.mem_of_getElem? (i := 27) rfl)),
  List.forall_mem_cons.mpr ⟨sd_oGetR 101 110 7 14 39 RX6 TX6 23 rfl ⟨by decide, by decide⟩ rfl (by decide) rfl (fun w h => iw_101 w (uz_6 w h)) rfl (iw_101 _ zw343) (dk_101_1 (110, .getfield 39, 3) (List.mem_of_getElem? (i := 28) rfl)),
  List.forall_mem_cons.mpr ⟨sd_oLdI 101 113 5 (dk_101_1 (113, .iload 5, 2) (List.mem_of_getElem? (i := 29) rfl)),
  List.forall_mem_cons.mpr ⟨sd_dup2 101 115 (dk_101_1 (115, .dup2, 1) (List.mem_of_getElem? (i := 30) rfl)),
  List.forall_mem_cons.mpr ⟨sd_iald 101 116 (dk_101_1 (116, .iaload, 1) (List.mem_of_getElem? (i := 31) rfl)),
  List.forall_mem_cons.mpr ⟨sd_iconst 101 117 0 ⟨by decide, by decide⟩ (dk_101_1 (117, .iconst 0, 1) (List.mem_of_getElem? (i := 32) rfl)),
  List.forall_mem_cons.mpr ⟨sd_oLdI_n 101 118 2 2 rfl (dk_101_1 (118, .iload_n 2, 1) (List.mem_of_getElem? (i := 33) rfl)),
  List.forall_mem_cons.mpr ⟨sd_oLdR_n 101 119 0 0 rfl (dk_101_1 (119, .aload_n 0, 1) (List.mem_of_getElem? (i := 34) rfl)),
  List.forall_mem_cons.mpr ⟨sd_oGetR 101 120 7 14 39 RX6 TX6 23 rfl ⟨by decide, by decide⟩ rfl (by decide) rfl (fun w h => iw_101 w (uz_6 w h)) rfl (iw_101 _ zw343) (dk_101_1 (120, .getfield 39, 3) (List.mem_of_getElem? (i := 35) rfl)),
  List.forall_mem_cons.mpr ⟨sd_oLdI 101 123 5 (dk_101_1 (123, .iload 5, 2) (List.mem_of_getElem? (i := 36) rfl)),
  List.forall_mem_cons.mpr ⟨sd_iald 101 125 (dk_101_1 (125, .iaload, 1) (List.mem_of_getElem? (i := 37) rfl)),
  List.forall_mem_cons.mpr ⟨sd_oLdI_n 101 126 1 1 rfl (dk_101_1 (126, .iload_n 1, 1) (List.mem_of_getElem? (i := 38) rfl)),
  List.forall_mem_cons.mpr ⟨sd_isub 101 127 (dk_101_1 (127, .isub, 1) (List.mem_of_getElem? (i := 39) rfl)),
  fun _ h => nomatch h⟩⟩⟩⟩⟩⟩⟩⟩⟩⟩⟩⟩⟩⟩⟩⟩⟩⟩⟩⟩⟩⟩⟩⟩⟩⟩⟩⟩⟩⟩⟩⟩⟩⟩⟩⟩⟩⟩
def tb_101_2 : List (Nat × Op1) := [(128, oMin), (131, oMax), (134, oSub), (135, oAStI), (136, oInc 5 1), (139, oGoto 58), (142, oRetV)]
theorem sm_101_2 : ∀ q ∈ tb_101_2, SM GwP MdP D A l 101 q.1 q.2 :=
  List.forall_mem_cons.mpr ⟨sd_min 101 128 103 (iw_101 _ zw375) (iw_101 _ zw14) (iw_101 _ zw15) (iw_101 _ zw16) (by decide) (by decide) (dk_101_2 (128, .invokestatic 103, 3) (List.mem_of_getElem? (i := 0) rfl)),
  List.forall_mem_cons.mpr ⟨sd_max 101 131 109 (iw_101 _ zw376) (iw_101 _ zw18) (iw_101 _ zw15) (iw_101 _ zw19) (by decide) (by decide) (dk_101_2 (131, .invokestatic 109, 3) (List.mem_of_getElem? (i := 1) rfl)),
  List.forall_mem_cons.mpr ⟨sd_isub 101 134 (dk_101_2 (134, .isub, 1) (List.mem_of_getElem? (i := 2) rfl)),
  List.forall_mem_cons.mpr ⟨sd_iast 101 135 (dk_101_2 (135, .iastore, 1) (List.mem_of_getElem? (i := 3) rfl)),
  List.forall_mem_cons.mpr ⟨sd_iinc 101 136 5 1 (by decide) (dk_101_2 (136, .iinc 5 1, 3) (List.mem_of_getElem? (i := 4) rfl)),
  List.forall_mem_cons.mpr ⟨sd_goto 101 139 (-81) 58 (by decide) (dk_101_2 (139, .goto (-81), 3) (List.mem_of_getElem? (i := 5) rfl)),
  List.forall_mem_cons.mpr ⟨sd_vret 101 142 rfl (dk_101_2 (142, .return_, 1) (List.mem_of_getElem? (i := 6) rfl)),
  fun _ h => nomatch h⟩⟩⟩⟩⟩⟩⟩
def tb_101 : List (List (Nat × Op1)) := [tb_101_0, tb_101_1, tb_101_2]
theorem sm_101 : ∀ t ∈ tb_101, ∀ q ∈ t, SM GwP MdP D A l 101 q.1 q.2 := List.forall_mem_cons.mpr ⟨sm_101_0, List.forall_mem_cons.mpr ⟨sm_101_1, List.forall_mem_cons.mpr ⟨sm_101_2, fun _ h => nomatch h⟩⟩⟩
-- 102: MarginaliaModel.insert(IIII)I
def dl_102_0 : List (Nat × Instr × Nat) := [(0, .aload_n 0, 1), (1, .iconst 0, 1), (2, .putfield 65, 3), (5, .aload_n 0, 1), (6, .iload_n 1, 1), (7, .invokevirtual 86, 3), (10, .ifCond .eq 16, 3), (13, .iload_n 2, 1), (14, .iconst 0, 1), (15, .aload_n 0, 1), (16, .invokevirtual 90, 3), (19, .arraylength, 1), (20, .invokestatic 72, 3), (23, .ifCond .ne 9, 3), (26, .aload_n 0, 1), (27, .iconst 1, 1), (28, .invokevirtual 82, 3), (31, .ireturn, 1), (32, .iload_n 3, 1), (33, .iconst 1, 1), (34, .bipush 40, 2), (36, .invokestatic 72, 3), (39, .ifCond .eq 14, 3), (42, .iload 4, 2), (44, .iconst 0, 1), (45, .bipush 25, 2), (47, .invokestatic 72, 3), (50, .ifCond .ne 9, 3), (53, .aload_n 0, 1), (54, .iconst 2, 1), (55, .invokevirtual 82, 3), (58, .ireturn, 1), (59, .aload_n 0, 1), (60, .getfield 9, 3), (63, .iload_n 1, 1), (64, .iaload, 1), (65, .iconst 3, 1), (66, .if_icmp .lt 25, 3), (69, .aload_n 0, 1), (70, .invokevirtual 90, 3)]
theorem dk_102_0 : ∀ q ∈ dl_102_0, decode (mCod (MdP 102)) q.1 = .ok q.2 := by
  rw [show mCod (MdP 102) = cX6_insert from rfl]
  decide +kernel
def dl_102_1 : List (Nat × Instr × Nat) := [(73, .arraylength, 1), (74, .iload_n 3, 1), (75, .iadd, 1), (76, .sipush 200, 3), (79, .if_icmp .gt 12, 3), (82, .aload_n 0, 1), (83, .getfield 79, 3), (86, .bipush 60, 2), (88, .if_icmp .ne 9, 3), (91, .aload_n 0, 1), (92, .iconst 3, 1), (93, .invokevirtual 82, 3), (96, .ireturn, 1), (97, .aload_n 0, 1), (98, .iload_n 2, 1), (99, .iload_n 3, 1), (100, .iload 4, 2), (102, .invokevirtual 112, 3), (105, .aload_n 0, 1), (106, .invokevirtual 90, 3), (109, .arraylength, 1), (110, .ireturn, 1)]
theorem dk_102_1 : ∀ q ∈ dl_102_1, decode (mCod (MdP 102)) q.1 = .ok q.2 := by
  rw [show mCod (MdP 102) = cX6_insert from rfl]
  decide +kernel
def tb_102_0 : List (Nat × Op1) := [(0, oLdR 0 1), (1, oCI 0 1), (2, oPutI 7 0), (5, oLdR 0 1), (6, oLdI 1 1), (7, oCallV 95 1 2 7 []), (10, oZeq 26), (13, oLdI 2 1), (14, oCI 0 1), (15, oLdR 0 1), (16, oCallV 97 0 1 7 []), (19, oALen 10), (20, oCallS 94 3 3 []), (23, oZne 32), (26, oLdR 0 1), (27, oCI 1 1), (28, oCallV 91 1 2 7 []), (31, oRetI), (32, oLdI 3 1), (33, oCI 1 1), (34, oCI 40 2), (36, oCallS 94 3 3 []), (39, oZeq 53), (42, oLdI 4 2), (44, oCI 0 1), (45, oCI 25 2), (47, oCallS 94 3 3 []), (50, oZne 59), (53, oLdR 0 1), (54, oCI 2 1), (55, oCallV 91 1 2 7 []), (58, oRetI), (59, oLdR 0 1), (60, oGetR 7 2), (63, oLdI 1 1)]
theorem sm_102_0 : ∀ q ∈ tb_102_0, SM GwP MdP D A l 102 q.1 q.2 :=
  List.forall_mem_cons.mpr ⟨sd_oLdR_n 102 0 0 0 rfl (dk_102_0 (0, .aload_n 0, 1) (List.mem_of_getElem? (i := 0) rfl)),
  List.forall_mem_cons.mpr ⟨sd_iconst 102 1 0 ⟨by decide, by decide⟩ (dk_102_0 (1, .iconst 0, 1) (List.mem_of_getElem? (i := 1) rfl)),
  List.forall_mem_cons.mpr ⟨sd_oPutI 102 2 7 0 65 RX6 TX6 23 rfl ⟨by decide, by decide⟩ rfl (by decide) rfl (fun w h => iw_102 w (uz_6 w h)) rfl tyX6 tyX6_ok nmX6 rfl rfl (iw_102 _ zw353) (dk_102_0 (2, .putfield 65, 3) (List.mem_of_getElem? (i := 2) rfl)),
  List.forall_mem_cons.mpr ⟨sd_oLdR_n 102 5 0 0 rfl (dk_102_0 (5, .aload_n 0, 1) (List.mem_of_getElem? (i := 3) rfl)),
  List.forall_mem_cons.mpr ⟨sd_oLdI_n 102 6 1 1 rfl (dk_102_0 (6, .iload_n 1, 1) (List.mem_of_getElem? (i := 4) rfl)),
  List.forall_mem_cons.mpr ⟨sd_callV 102 7 95 1 2 86 7 [] (gdV hws_102 hws_95 zw366 zw367 zw368 zw358 zw365) hws_95 rfl (by decide +kernel) rfl rfl ⟨by decide +kernel, by decide +kernel, by decide +kernel⟩ ⟨by decide, by decide⟩ (catch_nil rfl) RX6 rfl TX6 23 rfl ⟨by decide, by decide⟩ (dk_102_0 (7, .invokevirtual 86, 3) (List.mem_of_getElem? (i := 5) rfl)),
  List.forall_mem_cons.mpr ⟨sd_if_eq 102 10 16 26 (by decide) (dk_102_0 (10, .ifCond .eq 16, 3) (List.mem_of_getElem? (i := 6) rfl)),
  List.forall_mem_cons.mpr ⟨sd_oLdI_n 102 13 2 2 rfl (dk_102_0 (13, .iload_n 2, 1) (List.mem_of_getElem? (i := 7) rfl)),
  List.forall_mem_cons.mpr ⟨sd_iconst 102 14 0 ⟨by decide, by decide⟩ (dk_102_0 (14, .iconst 0, 1) (List.mem_of_getElem? (i := 8) rfl)),
  List.forall_mem_cons.mpr ⟨sd_oLdR_n 102 15 0 0 rfl (dk_102_0 (15, .aload_n 0, 1) (List.mem_of_getElem? (i := 9) rfl)),
  List.forall_mem_cons.mpr ⟨sd_callV 102 16 97 0 1 90 7 [] (gdV hws_102 hws_97 zw370 zw371 zw372 zw358 zw369) hws_97 rfl (by decide +kernel) rfl rfl ⟨by decide +kernel, by decide +kernel, by decide +kernel⟩ ⟨by decide, by decide⟩ (catch_nil rfl) RX6 rfl TX6 23 rfl ⟨by decide, by decide⟩ (dk_102_0 (16, .invokevirtual 90, 3) (List.mem_of_getElem? (i := 10) rfl)),
  List.forall_mem_cons.mpr ⟨sd_alen 102 19 10 ⟨by decide, by decide⟩ (dk_102_0 (19, .arraylength, 1) (List.mem_of_getElem? (i := 11) rfl)),
  List.forall_mem_cons.mpr ⟨sd_callS 102 20 94 3 3 72 [] (gdS hws_102 hws_94 zw356 zw357 zw358 zw355) hws_94 rfl (by decide +kernel) rfl rfl ⟨by decide +kernel, by decide +kernel, by decide +kernel⟩ ⟨by decide, by decide⟩ (catch_nil rfl) (dk_102_0 (20, .invokestatic 72, 3) (List.mem_of_getElem? (i := 12) rfl)),
  List.forall_mem_cons.mpr ⟨sd_if_ne 102 23 9 32 (by decide) (dk_102_0 (23, .ifCond .ne 9, 3) (List.mem_of_getElem? (i := 13) rfl)),
  List.forall_mem_cons.mpr ⟨sd_oLdR_n 102 26 0 0 rfl (dk_102_0 (26, .aload_n 0, 1) (List.mem_of_getElem? (i := 14) rfl)),
  List.forall_mem_cons.mpr ⟨sd_iconst 102 27 1 ⟨by decide, by decide⟩ (dk_102_0 (27, .iconst 1, 1) (List.mem_of_getElem? (i := 15) rfl)),
  List.forall_mem_cons.mpr ⟨sd_callV 102 28 91 1 2 82 7 [] (gdV hws_102 hws_91 zw362 zw363 zw364 zw358 zw361) hws_91 rfl (by decide +kernel) rfl rfl ⟨by decide +kernel, by decide +kernel, by decide +kernel⟩ ⟨by decide, by decide⟩ (catch_nil rfl) RX6 rfl TX6 23 rfl ⟨by decide, by decide⟩ (dk_102_0 (28, .invokevirtual 82, 3) (List.mem_of_getElem? (i := 16) rfl)),
  List.forall_mem_cons.mpr ⟨sd_iret 102 31 rfl (dk_102_0 (31, .ireturn, 1) (List.mem_of_getElem? (i := 17) rfl)),
  List.forall_mem_cons.mpr ⟨sd_oLdI_n 102 32 3 3 rfl (dk_102_0 (32, .iload_n 3, 1) (List.mem_of_getElem? (i := 18) rfl)),
  List.forall_mem_cons.mpr ⟨sd_iconst 102 33 1 ⟨by decide, by decide⟩ (dk_102_0 (33, .iconst 1, 1) (List.mem_of_getElem? (i := 19) rfl)),
  List.forall_mem_cons.mpr ⟨sd_bipush 102 34 40 ⟨by decide, by decide⟩ (by decide) (dk_102_0 (34, .bipush 40, 2) (List.mem_of_getElem? (i := 20) rfl)),
  List.forall_mem_cons.mpr ⟨sd_callS 102 36 94 3 3 72 [] (gdS hws_102 hws_94 zw356 zw357 zw358 zw355) hws_94 rfl (by decide +kernel) rfl rfl ⟨by decide +kernel, by decide +kernel, by decide +kernel⟩ ⟨by decide, by decide⟩ (catch_nil rfl) (dk_102_0 (36, .invokestatic 72, 3) (List.mem_of_getElem? (i := 21) rfl)),
  List.forall_mem_cons.mpr ⟨sd_if_eq 102 39 14 53 (by decide) (dk_102_0 (39, .ifCond .eq 14, 3) (List.mem_of_getElem? (i := 22) rfl)),
  List.forall_mem_cons.mpr ⟨sd_oLdI 102 42 4 (dk_102_0 (42, .iload 4, 2) (List.mem_of_getElem? (i := 23) rfl)),
  List.forall_mem_cons.mpr ⟨sd_iconst 102 44 0 ⟨by decide, by decide⟩ (dk_102_0 (44, .iconst 0, 1) (List.mem_of_getElem? (i := 24) rfl)),
  List.forall_mem_cons.mpr ⟨sd_bipush 102 45 25 ⟨by decide, by decide⟩ (by decide) (dk_102_0 (45, .bipush 25, 2) (List.mem_of_getElem? (i := 25) rfl)),
  List.forall_mem_cons.mpr ⟨sd_callS 102 47 94 3 3 72 [] (gdS hws_102 hws_94 zw356 zw357 zw358 zw355) hws_94 rfl (by decide +kernel) rfl rfl ⟨by decide +kernel, by decide +kernel, by decide +kernel⟩ ⟨by decide, by decide⟩ (catch_nil rfl) (dk_102_0 (47, .invokestatic 72, 3) (List.mem_of_getElem? (i := 26) rfl)),
  List.forall_mem_cons.mpr ⟨sd_if_ne 102 50 9 59 (by decide) (dk_102_0 (50, .ifCond .ne 9, 3) (List.mem_of_getElem? (i := 27) rfl)),
  List.forall_mem_cons.mpr ⟨sd_oLdR_n 102 53 0 0 rfl (dk_102_0 (53, .aload_n 0, 1) (List.mem_of_getElem? (i := 28) rfl)),
  List.forall_mem_cons.mpr ⟨sd_iconst 102 54 2 ⟨by decide, by decide⟩ (dk_102_0 (54, .iconst 2, 1) (List.mem_of_getElem? (i := 29) rfl)),
  List.forall_mem_cons.mpr ⟨sd_callV 102 55 91 1 2 82 7 [] (gdV hws_102 hws_91 zw362 zw363 zw364 zw358 zw361) hws_91 rfl (by decide +kernel) rfl rfl ⟨by decide +kernel, by decide +kernel, by decide +kernel⟩ ⟨by decide, by decide⟩ (catch_nil rfl) RX6 rfl TX6 23 rfl ⟨by decide, by decide⟩ (dk_102_0 (55, .invokevirtual 82, 3) (List.mem_of_getElem? (i := 30) rfl)),
  List.forall_mem_cons.mpr ⟨sd_iret 102 58 rfl (dk_102_0 (58, .ireturn, 1) (List.mem_of_getElem? (i := 31) rfl)),
  List.forall_mem_cons.mpr ⟨sd_oLdR_n 102 59 0 0 rfl (dk_102_0 (59, .aload_n 0, 1) (List.mem_of_getElem? (i := 32) rfl)),
  List.forall_mem_cons.mpr ⟨sd_oGetR 102 60 7 2 9 RX6 TX6 23 rfl ⟨by decide, by decide⟩ rfl (by decide) rfl (fun w h => iw_102 w (uz_6 w h)) rfl (iw_102 _ zw333) (dk_102_0 (60, .getfield 9, 3) (List.mem_of_getElem? (i := 33) rfl)),
  List.forall_mem_cons.mpr ⟨sd_oLdI_n 102 63 1 1 rfl (dk_102_0 (63, .iload_n 1, 1) (List.mem_of_getElem? (i := 34) rfl)),
  fun _ h => nomatch h⟩⟩⟩⟩⟩⟩⟩⟩⟩⟩⟩⟩⟩⟩⟩⟩⟩⟩⟩⟩⟩⟩⟩⟩⟩⟩⟩⟩⟩⟩⟩⟩⟩⟩⟩
def tb_102_1 : List (Nat × Op1) := [(64, oALdI 10), (65, oCI 3 1), (66, oClt 91), (69, oLdR 0 1), (70, oCallV 97 0 1 7 []), (73, oALen 10), (74, oLdI 3 1), (75, oAdd), (76, oCI 200 3), (79, oCgt 91), (82, oLdR 0 1), (83, oGetI 7 6), (86, oCI 60 2), (88, oCne 97), (91, oLdR 0 1), (92, oCI 3 1), (93, oCallV 91 1 2 7 []), (96, oRetI), (97, oLdR 0 1), (98, oLdI 2 1), (99, oLdI 3 1), (100, oLdI 4 2), (102, oCallV 100 3 7 7 []), (105, oLdR 0 1), (106, oCallV 97 0 1 7 []), (109, oALen 10), (110, oRetI)]
theorem sm_102_1 : ∀ q ∈ tb_102_1, SM GwP MdP D A l 102 q.1 q.2 :=
  List.forall_mem_cons.mpr ⟨sd_iald 102 64 (dk_102_0 (64, .iaload, 1) (List.mem_of_getElem? (i := 35) rfl)),
  List.forall_mem_cons.mpr ⟨sd_iconst 102 65 3 ⟨by decide, by decide⟩ (dk_102_0 (65, .iconst 3, 1) (List.mem_of_getElem? (i := 36) rfl)),
  List.forall_mem_cons.mpr ⟨sd_icmp_lt 102 66 25 91 (by decide) (dk_102_0 (66, .if_icmp .lt 25, 3) (List.mem_of_getElem? (i := 37) rfl)),
  List.forall_mem_cons.mpr ⟨sd_oLdR_n 102 69 0 0 rfl (dk_102_0 (69, .aload_n 0, 1) (List.mem_of_getElem? (i := 38) rfl)),
  List.forall_mem_cons.mpr ⟨sd_callV 102 70 97 0 1 90 7 [] (gdV hws_102 hws_97 zw370 zw371 zw372 zw358 zw369) hws_97 rfl (by decide +kernel) rfl rfl ⟨by decide +kernel, by decide +kernel, by decide +kernel⟩ ⟨by decide, by decide⟩ (catch_nil rfl) RX6 rfl TX6 23 rfl ⟨by decide, by decide⟩ (dk_102_0 (70, .invokevirtual 90, 3) (List.mem_of_getElem? (i := 39) rfl)),
  List.forall_mem_cons.mpr ⟨sd_alen 102 73 10 ⟨by decide, by decide⟩ (dk_102_1 (73, .arraylength, 1) (List.mem_of_getElem? (i := 0) rfl)),
  List.forall_mem_cons.mpr ⟨sd_oLdI_n 102 74 3 3 rfl (dk_102_1 (74, .iload_n 3, 1) (List.mem_of_getElem? (i := 1) rfl)),
  List.forall_mem_cons.mpr ⟨sd_iadd 102 75 (dk_102_1 (75, .iadd, 1) (List.mem_of_getElem? (i := 2) rfl)),
  List.forall_mem_cons.mpr ⟨sd_sipush 102 76 200 ⟨by decide, by decide⟩ (by decide) (dk_102_1 (76, .sipush 200, 3) (List.mem_of_getElem? (i := 3) rfl)),
  List.forall_mem_cons.mpr ⟨sd_icmp_gt 102 79 12 91 (by decide) (dk_102_1 (79, .if_icmp .gt 12, 3) (List.mem_of_getElem? (i := 4) rfl)),
  List.forall_mem_cons.mpr ⟨sd_oLdR_n 102 82 0 0 rfl (dk_102_1 (82, .aload_n 0, 1) (List.mem_of_getElem? (i := 5) rfl)),
  List.forall_mem_cons.mpr ⟨sd_oGetI 102 83 7 6 79 RX6 TX6 23 rfl ⟨by decide, by decide⟩ rfl (by decide) rfl (fun w h => iw_102 w (uz_6 w h)) rfl (iw_102 _ zw360) (dk_102_1 (83, .getfield 79, 3) (List.mem_of_getElem? (i := 6) rfl)),
  List.forall_mem_cons.mpr ⟨sd_bipush 102 86 60 ⟨by decide, by decide⟩ (by decide) (dk_102_1 (86, .bipush 60, 2) (List.mem_of_getElem? (i := 7) rfl)),
  List.forall_mem_cons.mpr ⟨sd_icmp_ne 102 88 9 97 (by decide) (dk_102_1 (88, .if_icmp .ne 9, 3) (List.mem_of_getElem? (i := 8) rfl)),
  List.forall_mem_cons.mpr ⟨sd_oLdR_n 102 91 0 0 rfl (dk_102_1 (91, .aload_n 0, 1) (List.mem_of_getElem? (i := 9) rfl)),
  List.forall_mem_cons.mpr ⟨sd_iconst 102 92 3 ⟨by decide, by decide⟩ (dk_102_1 (92, .iconst 3, 1) (List.mem_of_getElem? (i := 10) rfl)),
  List.forall_mem_cons.mpr ⟨sd_callV 102 93 91 1 2 82 7 [] (gdV hws_102 hws_91 zw362 zw363 zw364 zw358 zw361) hws_91 rfl (by decide +kernel) rfl rfl ⟨by decide +kernel, by decide +kernel, by decide +kernel⟩ ⟨by decide, by decide⟩ (catch_nil rfl) RX6 rfl TX6 23 rfl ⟨by decide, by decide⟩ (dk_102_1 (93, .invokevirtual 82, 3) (List.mem_of_getElem? (i := 11) rfl)),
  List.forall_mem_cons.mpr ⟨sd_iret 102 96 rfl (dk_102_1 (96, .ireturn, 1) (List.mem_of_getElem? (i := 12) rfl)),
  List.forall_mem_cons.mpr ⟨sd_oLdR_n 102 97 0 0 rfl (dk_102_1 (97, .aload_n 0, 1) (List.mem_of_getElem? (i := 13) rfl)),
  List.forall_mem_cons.mpr ⟨sd_oLdI_n 102 98 2 2 rfl (dk_102_1 (98, .iload_n 2, 1) (List.mem_of_getElem? (i := 14) rfl)),
  List.forall_mem_cons.mpr ⟨sd_oLdI_n 102 99 3 3 rfl (dk_102_1 (99, .iload_n 3, 1) (List.mem_of_getElem? (i := 15) rfl)),
  List.forall_mem_cons.mpr ⟨sd_oLdI 102 100 4 (dk_102_1 (100, .iload 4, 2) (List.mem_of_getElem? (i := 16) rfl)),
  List.forall_mem_cons.mpr ⟨sd_callV 102 102 100 3 7 112 7 [] (gdV hws_102 hws_100 zw378 zw379 zw380 zw358 zw377) hws_100 rfl (by decide +kernel) rfl rfl ⟨by decide +kernel, by decide +kernel, by decide +kernel⟩ ⟨by decide, by decide⟩ (catch_nil rfl) RX6 rfl TX6 23 rfl ⟨by decide, by decide⟩ (dk_102_1 (102, .invokevirtual 112, 3) (List.mem_of_getElem? (i := 17) rfl)),
  List.forall_mem_cons.mpr ⟨sd_oLdR_n 102 105 0 0 rfl (dk_102_1 (105, .aload_n 0, 1) (List.mem_of_getElem? (i := 18) rfl)),
  List.forall_mem_cons.mpr ⟨sd_callV 102 106 97 0 1 90 7 [] (gdV hws_102 hws_97 zw370 zw371 zw372 zw358 zw369) hws_97 rfl (by decide +kernel) rfl rfl ⟨by decide +kernel, by decide +kernel, by decide +kernel⟩ ⟨by decide, by decide⟩ (catch_nil rfl) RX6 rfl TX6 23 rfl ⟨by decide, by decide⟩ (dk_102_1 (106, .invokevirtual 90, 3) (List.mem_of_getElem? (i := 19) rfl)),
  List.forall_mem_cons.mpr ⟨sd_alen 102 109 10 ⟨by decide, by decide⟩ (dk_102_1 (109, .arraylength, 1) (List.mem_of_getElem? (i := 20) rfl)),
  List.forall_mem_cons.mpr ⟨sd_iret 102 110 rfl (dk_102_1 (110, .ireturn, 1) (List.mem_of_getElem? (i := 21) rfl)),
  fun _ h => nomatch h⟩⟩⟩⟩⟩⟩⟩⟩⟩⟩⟩⟩⟩⟩⟩⟩⟩⟩⟩⟩⟩⟩⟩⟩⟩⟩⟩
def tb_102 : List (List (Nat × Op1)) := [tb_102_0, tb_102_1]
theorem sm_102 : ∀ t ∈ tb_102, ∀ q ∈ t, SM GwP MdP D A l 102 q.1 q.2 := List.forall_mem_cons.mpr ⟨sm_102_0, List.forall_mem_cons.mpr ⟨sm_102_1, fun _ h => nomatch h⟩⟩
-- 103: MarginaliaModel.delete(III)I
def dl_103_0 : List (Nat × Instr × Nat) := [(0, .aload_n 0, 1), (1, .iconst 0, 1), (2, .putfield 65, 3), (5, .aload_n 0, 1), (6, .iload_n 1, 1), (7, .invokevirtual 86, 3), (10, .ifCond .eq 18, 3), (13, .iload_n 2, 1), (14, .iconst 0, 1), (15, .aload_n 0, 1), (16, .invokevirtual 90, 3), (19, .arraylength, 1), (20, .iconst 1, 1), (21, .isub, 1), (22, .invokestatic 72, 3), (25, .ifCond .ne 9, 3), (28, .aload_n 0, 1), (29, .iconst 1, 1), (30, .invokevirtual 82, 3), (33, .ireturn, 1), (34, .iload_n 3, 1), (35, .iconst 1, 1), (36, .aload_n 0, 1), (37, .invokevirtual 90, 3), (40, .arraylength, 1), (41, .iload_n 2, 1), (42, .isub, 1), (43, .invokestatic 72, 3), (46, .ifCond .ne 9, 3), (49, .aload_n 0, 1), (50, .iconst 2, 1), (51, .invokevirtual 82, 3), (54, .ireturn, 1), (55, .aload_n 0, 1), (56, .getfield 9, 3), (59, .iload_n 1, 1), (60, .iaload, 1), (61, .iconst 3, 1), (62, .if_icmp .lt 12, 3), (65, .aload_n 0, 1)]
theorem dk_103_0 : ∀ q ∈ dl_103_0, decode (mCod (MdP 103)) q.1 = .ok q.2 := by
  rw [show mCod (MdP 103) = cX6_delete from rfl]
  decide +kernel
def dl_103_1 : List (Nat × Instr × Nat) := [(66, .getfield 79, 3), (69, .bipush 60, 2), (71, .if_icmp .ne 9, 3), (74, .aload_n 0, 1), (75, .iconst 3, 1), (76, .invokevirtual 82, 3), (79, .ireturn, 1), (80, .aload_n 0, 1), (81, .iload_n 2, 1), (82, .iload_n 3, 1), (83, .invokevirtual 116, 3), (86, .aload_n 0, 1), (87, .invokevirtual 90, 3), (90, .arraylength, 1), (91, .ireturn, 1)]
theorem dk_103_1 : ∀ q ∈ dl_103_1, decode (mCod (MdP 103)) q.1 = .ok q.2 := by
  rw [show mCod (MdP 103) = cX6_delete from rfl]
  decide +kernel
def tb_103_0 : List (Nat × Op1) := [(0, oLdR 0 1), (1, oCI 0 1), (2, oPutI 7 0), (5, oLdR 0 1), (6, oLdI 1 1), (7, oCallV 95 1 2 7 []), (10, oZeq 28), (13, oLdI 2 1), (14, oCI 0 1), (15, oLdR 0 1), (16, oCallV 97 0 1 7 []), (19, oALen 10), (20, oCI 1 1), (21, oSub), (22, oCallS 94 3 3 []), (25, oZne 34), (28, oLdR 0 1), (29, oCI 1 1), (30, oCallV 91 1 2 7 []), (33, oRetI), (34, oLdI 3 1), (35, oCI 1 1), (36, oLdR 0 1), (37, oCallV 97 0 1 7 []), (40, oALen 10), (41, oLdI 2 1), (42, oSub), (43, oCallS 94 3 3 []), (46, oZne 55), (49, oLdR 0 1), (50, oCI 2 1), (51, oCallV 91 1 2 7 []), (54, oRetI), (55, oLdR 0 1), (56, oGetR 7 2), (59, oLdI 1 1), (60, oALdI 10), (61, oCI 3 1), (62, oClt 74)]
theorem sm_103_0 : ∀ q ∈ tb_103_0, SM GwP MdP D A l 103 q.1 q.2 :=
  List.forall_mem_cons.mpr ⟨sd_oLdR_n 103 0 0 0 rfl (dk_103_0 (0, .aload_n 0, 1) (List.mem_of_getElem? (i := 0) rfl)),
  List.forall_mem_cons.mpr ⟨sd_iconst 103 1 0 ⟨by decide, by decide⟩ (dk_103_0 (1, .iconst 0, 1) (List.mem_of_getElem? (i := 1) rfl)),
  List.forall_mem_cons.mpr ⟨sd_oPutI 103 2 7 0 65 RX6 TX6 23 rfl ⟨by decide, by decide⟩ rfl (by decide) rfl (fun w h => iw_103 w (uz_6 w h)) rfl tyX6 tyX6_ok nmX6 rfl rfl (iw_103 _ zw353) (dk_103_0 (2, .putfield 65, 3) (List.mem_of_getElem? (i := 2) rfl)),
  List.forall_mem_cons.mpr ⟨sd_oLdR_n 103 5 0 0 rfl (dk_103_0 (5, .aload_n 0, 1) (List.mem_of_getElem? (i := 3) rfl)),
  List.forall_mem_cons.mpr ⟨sd_oLdI_n 103 6 1 1 rfl (dk_103_0 (6, .iload_n 1, 1) (List.mem_of_getElem? (i := 4) rfl)),
  List.forall_mem_cons.mpr ⟨sd_callV 103 7 95 1 2 86 7 [] (gdV hws_103 hws_95 zw366 zw367 zw368 zw358 zw365) hws_95 rfl (by decide +kernel) rfl rfl ⟨by decide +kernel, by decide +kernel, by decide +kernel⟩ ⟨by decide, by decide⟩ (catch_nil rfl) RX6 rfl TX6 23 rfl ⟨by decide, by decide⟩ (dk_103_0 (7, .invokevirtual 86, 3) (List.mem_of_getElem? (i := 5) rfl)),
  List.forall_mem_cons.mpr ⟨sd_if_eq 103 10 18 28 (by decide) (dk_103_0 (10, .ifCond .eq 18, 3) (List.mem_of_getElem? (i := 6) rfl)),
  List.forall_mem_cons.mpr ⟨sd_oLdI_n 103 13 2 2 rfl (dk_103_0 (13, .iload_n 2, 1) (List.mem_of_getElem? (i := 7) rfl)),
  List.forall_mem_cons.mpr ⟨sd_iconst 103 14 0 ⟨by decide, by decide⟩ (dk_103_0 (14, .iconst 0, 1) (List.mem_of_getElem? (i := 8) rfl)),
  List.forall_mem_cons.mpr ⟨sd_oLdR_n 103 15 0 0 rfl (dk_103_0 (15, .aload_n 0, 1) (List.mem_of_getElem? (i := 9) rfl)),
  List.forall_mem_cons.mpr ⟨sd_callV 103 16 97 0 1 90 7 [] (gdV hws_103 hws_97 zw370 zw371 zw372 zw358 zw369) hws_97 rfl (by decide +kernel) rfl rfl ⟨by decide +kernel, by decide +kernel, by decide +kernel⟩ ⟨by decide, by decide⟩ (catch_nil rfl) RX6 rfl TX6 23 rfl ⟨by decide, by decide⟩ (dk_103_0 (16, .invokevirtual 90, 3) (List.mem_of_getElem? (i := 10) rfl)),
  List.forall_mem_cons.mpr ⟨sd_alen 103 19 10 ⟨by decide, by decide⟩ (dk_103_0 (19, .arraylength, 1) (List.mem_of_getElem? (i := 11) rfl)),
  List.forall_mem_cons.mpr ⟨sd_iconst 103 20 1 ⟨by decide, by decide⟩ (dk_103_0 (20, .iconst 1, 1) (List.mem_of_getElem? (i := 12) rfl)),
  List.forall_mem_cons.mpr ⟨sd_isub 103 21 (dk_103_0 (21, .isub, 1) (List.mem_of_getElem? (i := 13) rfl)),
  List.forall_mem_cons.mpr ⟨sd_callS 103 22 94 3 3 72 [] (gdS hws_103 hws_94 zw356 zw357 zw358 zw355) hws_94 rfl (by decide +kernel) rfl rfl ⟨by decide +kernel, by decide +kernel, by decide +kernel⟩ ⟨by decide, by decide⟩ (catch_nil rfl) (dk_103_0 (22, .invokestatic 72, 3) (List.mem_of_getElem? (i := 14) rfl)),
  List.forall_mem_cons.mpr ⟨sd_if_ne 103 25 9 34 (by decide) (dk_103_0 (25, .ifCond .ne 9, 3) (List.mem_of_getElem? (i := 15) rfl)),
  List.forall_mem_cons.mpr ⟨sd_oLdR_n 103 28 0 0 rfl (dk_103_0 (28, .aload_n 0, 1) (List.mem_of_getElem? (i := 16) rfl)),
  List.forall_mem_cons.mpr ⟨sd_iconst 103 29 1 ⟨by decide, by decide⟩ (dk_103_0 (29, .iconst 1, 1) (List.mem_of_getElem? (i := 17) rfl)),
  List.forall_mem_cons.mpr ⟨sd_callV 103 30 91 1 2 82 7 [] (gdV hws_103 hws_91 zw362 zw363 zw364 zw358 zw361) hws_91 rfl (by decide +kernel) rfl rfl ⟨by decide +kernel, by decide +kernel, by decide +kernel⟩ ⟨by decide, by decide⟩ (catch_nil rfl) RX6 rfl TX6 23 rfl ⟨by decide, by decide⟩ (dk_103_0 (30, .invokevirtual 82, 3) (List.mem_of_getElem? (i := 18) rfl)),
  List.forall_mem_cons.mpr ⟨sd_iret 103 33 rfl (dk_103_0 (33, .ireturn, 1) (List.mem_of_getElem? (i := 19) rfl)),
  List.forall_mem_cons.mpr ⟨sd_oLdI_n 103 34 3 3 rfl (dk_103_0 (34, .iload_n 3, 1) (List.mem_of_getElem? (i := 20) rfl)),
  List.forall_mem_cons.mpr ⟨sd_iconst 103 35 1 ⟨by decide, by decide⟩ (dk_103_0 (35, .iconst 1, 1) (List.mem_of_getElem? (i := 21) rfl)),
  List.forall_mem_cons.mpr ⟨sd_oLdR_n 103 36 0 0 rfl (dk_103_0 (36, .aload_n 0, 1) (List.mem_of_getElem? (i := 22) rfl)),
  List.forall_mem_cons.mpr ⟨sd_callV 103 37 97 0 1 90 7 [] (gdV hws_103 hws_97 zw370 zw371 zw372 zw358 zw369) hws_97 rfl (by decide +kernel) rfl rfl ⟨by decide +kernel, by decide +kernel, by decide +kernel⟩ ⟨by decide, by decide⟩ (catch_nil rfl) RX6 rfl TX6 23 rfl ⟨by decide, by decide⟩ (dk_103_0 (37, .invokevirtual 90, 3) (List.mem_of_getElem? (i := 23) rfl)),
  List.forall_mem_cons.mpr ⟨sd_alen 103 40 10 ⟨by decide, by decide⟩ (dk_103_0 (40, .arraylength, 1) (List.mem_of_getElem? (i := 24) rfl)),
  List.forall_mem_cons.mpr ⟨sd_oLdI_n 103 41 2 2 rfl (dk_103_0 (41, .iload_n 2, 1) (List.mem_of_getElem? (i := 25) rfl)),
  List.forall_mem_cons.mpr ⟨sd_isub 103 42 (dk_103_0 (42, .isub, 1) (List.mem_of_getElem? (i := 26) rfl)),
  List.forall_mem_cons.mpr ⟨sd_callS 103 43 94 3 3 72 [] (gdS hws_103 hws_94 zw356 zw357 zw358 zw355) hws_94 rfl (by decide +kernel) rfl rfl ⟨by decide +kernel, by decide +kernel, by decide +kernel⟩ ⟨by decide, by decide⟩ (catch_nil rfl) (dk_103_0 (43, .invokestatic 72, 3) (List.mem_of_getElem? (i := 27) rfl)),
  List.forall_mem_cons.mpr ⟨sd_if_ne 103 46 9 55 (by decide) (dk_103_0 (46, .ifCond .ne 9, 3) (List.mem_of_getElem? (i := 28) rfl)),
  List.forall_mem_cons.mpr ⟨sd_oLdR_n 103 49 0 0 rfl (dk_103_0 (49, .aload_n 0, 1) (List.mem_of_getElem? (i := 29) rfl)),
  List.forall_mem_cons.mpr ⟨sd_iconst 103 50 2 ⟨by decide, by decide⟩ (dk_103_0 (50, .iconst 2, 1) (List.mem_of_getElem? (i := 30) rfl)),
  List.forall_mem_cons.mpr ⟨sd_callV 103 51 91 1 2 82 7 [] (gdV hws_103 hws_91 zw362 zw363 zw364 zw358 zw361) hws_91 rfl (by decide +kernel) rfl rfl ⟨by decide +kernel, by decide +kernel, by decide +kernel⟩ ⟨by decide, by decide⟩ (catch_nil rfl) RX6 rfl TX6 23 rfl ⟨by decide, by decide⟩ (dk_103_0 (51, .invokevirtual 82, 3) (List.mem_of_getElem? (i := 31) rfl)),
  List.forall_mem_cons.mpr ⟨sd_iret 103 54 rfl (dk_103_0 (54, .ireturn, 1) (List.mem_of_getElem? (i := 32) rfl)),
  List.forall_mem_cons.mpr ⟨sd_oLdR_n 103 55 0 0 rfl (dk_103_0 (55, .aload_n 0, 1) (List.mem_of_getElem? (i := 33) rfl)),
  List.forall_mem_cons.mpr ⟨sd_oGetR 103 56 7 2 9 RX6 TX6 23 rfl ⟨by decide, by decide⟩ rfl (by decide) rfl (fun w h => iw_103 w (uz_6 w h)) rfl (iw_103 _ zw333) (dk_103_0 (56, .getfield 9, 3) (List.mem_of_getElem? (i := 34) rfl)),
  List.forall_mem_cons.mpr ⟨sd_oLdI_n 103 59 1 1 rfl (dk_103_0 (59, .iload_n 1, 1) (List.mem_of_getElem? (i := 35) rfl)),
  List.forall_mem_cons.mpr ⟨sd_iald 103 60 (dk_103_0 (60, .iaload, 1) (List.mem_of_getElem? (i := 36) rfl)),
  List.forall_mem_cons.mpr ⟨sd_iconst 103 61 3 ⟨by decide, by decide⟩ (dk_103_0 (61, .iconst 3, 1) (List.mem_of_getElem? (i := 37) rfl)),
  List.forall_mem_cons.mpr ⟨sd_icmp_lt 103 62 12 74 (by decide) (dk_103_0 (62, .if_icmp .lt 12, 3) (List.mem_of_getElem? (i := 38) rfl)),
  fun _ h => nomatch h⟩⟩⟩⟩⟩⟩⟩⟩⟩⟩⟩⟩⟩⟩⟩⟩⟩⟩⟩⟩⟩⟩⟩⟩⟩⟩⟩⟩⟩⟩⟩⟩⟩⟩⟩⟩⟩⟩⟩
def tb_103_1 : List (Nat × Op1) := [(65, oLdR 0 1), (66, oGetI 7 6), (69, oCI 60 2), (71, oCne 80), (74, oLdR 0 1), (75, oCI 3 1), (76, oCallV 91 1 2 7 []), (79, oRetI), (80, oLdR 0 1), (81, oLdI 2 1), (82, oLdI 3 1), (83, oCallV 101 2 6 7 []), (86, oLdR 0 1), (87, oCallV 97 0 1 7 []), (90, oALen 10), (91, oRetI)]
theorem sm_103_1 : ∀ q ∈ tb_103_1, SM GwP MdP D A l 103 q.1 q.2 :=
  List.forall_mem_cons.mpr ⟨sd_oLdR_n 103 65 0 0 rfl (dk_103_0 (65, .aload_n 0, 1) (List.mem_of_getElem? (i := 39) rfl)),
  List.forall_mem_cons.mpr ⟨sd_oGetI 103 66 7 6 79 RX6 TX6 23 rfl ⟨by decide, by decide⟩ rfl (by decide) rfl (fun w h => iw_103 w (uz_6 w h)) rfl (iw_103 _ zw360) (dk_103_1 (66, .getfield 79, 3) (List.mem_of_getElem? (i := 0) rfl)),
  List.forall_mem_cons.mpr ⟨sd_bipush 103 69 60 ⟨by decide, by decide⟩ (by decide) (dk_103_1 (69, .bipush 60, 2) (List.mem_of_getElem? (i := 1) rfl)),
  List.forall_mem_cons.mpr ⟨sd_icmp_ne 103 71 9 80 (by decide) (dk_103_1 (71, .if_icmp .ne 9, 3) (List.mem_of_getElem? (i := 2) rfl)),
  List.forall_mem_cons.mpr ⟨sd_oLdR_n 103 74 0 0 rfl (dk_103_1 (74, .aload_n 0, 1) (List.mem_of_getElem? (i := 3) rfl)),
  List.forall_mem_cons.mpr ⟨sd_iconst 103 75 3 ⟨by decide, by decide⟩ (dk_103_1 (75, .iconst 3, 1) (List.mem_of_getElem? (i := 4) rfl)),
  List.forall_mem_cons.mpr ⟨sd_callV 103 76 91 1 2 82 7 [] (gdV hws_103 hws_91 zw362 zw363 zw364 zw358 zw361) hws_91 rfl (by decide +kernel) rfl rfl ⟨by decide +kernel, by decide +kernel, by decide +kernel⟩ ⟨by decide, by decide⟩ (catch_nil rfl) RX6 rfl TX6 23 rfl ⟨by decide, by decide⟩ (dk_103_1 (76, .invokevirtual 82, 3) (List.mem_of_getElem? (i := 5) rfl)),
  List.forall_mem_cons.mpr ⟨sd_iret 103 79 rfl (dk_103_1 (79, .ireturn, 1) (List.mem_of_getElem? (i := 6) rfl)),
  List.forall_mem_cons.mpr ⟨sd_oLdR_n 103 80 0 0 rfl (dk_103_1 (80, .aload_n 0, 1) (List.mem_of_getElem? (i := 7) rfl)),
  List.forall_mem_cons.mpr ⟨sd_oLdI_n 103 81 2 2 rfl (dk_103_1 (81, .iload_n 2, 1) (List.mem_of_getElem? (i := 8) rfl)),
  List.forall_mem_cons.mpr ⟨sd_oLdI_n 103 82 3 3 rfl (dk_103_1 (82, .iload_n 3, 1) (List.mem_of_getElem? (i := 9) rfl)),
  List.forall_mem_cons.mpr ⟨sd_callV 103 83 101 2 6 116 7 [] (gdV hws_103 hws_101 zw382 zw383 zw384 zw358 zw381) hws_101 rfl (by decide +kernel) rfl rfl ⟨by decide +kernel, by decide +kernel, by decide +kernel⟩ ⟨by decide, by decide⟩ (catch_nil rfl) RX6 rfl TX6 23 rfl ⟨by decide, by decide⟩ (dk_103_1 (83, .invokevirtual 116, 3) (List.mem_of_getElem? (i := 10) rfl)),
  List.forall_mem_cons.mpr ⟨sd_oLdR_n 103 86 0 0 rfl (dk_103_1 (86, .aload_n 0, 1) (List.mem_of_getElem? (i := 11) rfl)),
  List.forall_mem_cons.mpr ⟨sd_callV 103 87 97 0 1 90 7 [] (gdV hws_103 hws_97 zw370 zw371 zw372 zw358 zw369) hws_97 rfl (by decide +kernel) rfl rfl ⟨by decide +kernel, by decide +kernel, by decide +kernel⟩ ⟨by decide, by decide⟩ (catch_nil rfl) RX6 rfl TX6 23 rfl ⟨by decide, by decide⟩ (dk_103_1 (87, .invokevirtual 90, 3) (List.mem_of_getElem? (i := 12) rfl)),
  List.forall_mem_cons.mpr ⟨sd_alen 103 90 10 ⟨by decide, by decide⟩ (dk_103_1 (90, .arraylength, 1) (List.mem_of_getElem? (i := 13) rfl)),
  List.forall_mem_cons.mpr ⟨sd_iret 103 91 rfl (dk_103_1 (91, .ireturn, 1) (List.mem_of_getElem? (i := 14) rfl)),
  fun _ h => nomatch h⟩⟩⟩⟩⟩⟩⟩⟩⟩⟩⟩⟩⟩⟩⟩⟩
def tb_103 : List (List (Nat × Op1)) := [tb_103_0, tb_103_1]
theorem sm_103 : ∀ t ∈ tb_103, ∀ q ∈ t, SM GwP MdP D A l 103 q.1 q.2 := List.forall_mem_cons.mpr ⟨sm_103_0, List.forall_mem_cons.mpr ⟨sm_103_1, fun _ h => nomatch h⟩⟩
-- 104: MarginaliaModel.length()I
def dl_104_0 : List (Nat × Instr × Nat) := [(0, .aload_n 0, 1), (1, .aload_n 0, 1), (2, .invokevirtual 90, 3), (5, .arraylength, 1), (6, .invokevirtual 120, 3), (9, .ireturn, 1)]
theorem dk_104_0 : ∀ q ∈ dl_104_0, decode (mCod (MdP 104)) q.1 = .ok q.2 := by
  rw [show mCod (MdP 104) = cX6_length from rfl]
  decide +kernel
def tb_104_0 : List (Nat × Op1) := [(0, oLdR 0 1), (1, oLdR 0 1), (2, oCallV 97 0 1 7 []), (5, oALen 10), (6, oCallV 93 1 2 7 []), (9, oRetI)]
theorem sm_104_0 : ∀ q ∈ tb_104_0, SM GwP MdP D A l 104 q.1 q.2 :=
  List.forall_mem_cons.mpr ⟨sd_oLdR_n 104 0 0 0 rfl (dk_104_0 (0, .aload_n 0, 1) (List.mem_of_getElem? (i := 0) rfl)),
  List.forall_mem_cons.mpr ⟨sd_oLdR_n 104 1 0 0 rfl (dk_104_0 (1, .aload_n 0, 1) (List.mem_of_getElem? (i := 1) rfl)),
  List.forall_mem_cons.mpr ⟨sd_callV 104 2 97 0 1 90 7 [] (gdV hws_104 hws_97 zw370 zw371 zw372 zw358 zw369) hws_97 rfl (by decide +kernel) rfl rfl ⟨by decide +kernel, by decide +kernel, by decide +kernel⟩ ⟨by decide, by decide⟩ (catch_nil rfl) RX6 rfl TX6 23 rfl ⟨by decide, by decide⟩ (dk_104_0 (2, .invokevirtual 90, 3) (List.mem_of_getElem? (i := 2) rfl)),
  List.forall_mem_cons.mpr ⟨sd_alen 104 5 10 ⟨by decide, by decide⟩ (dk_104_0 (5, .arraylength, 1) (List.mem_of_getElem? (i := 3) rfl)),
  List.forall_mem_cons.mpr ⟨sd_callV 104 6 93 1 2 120 7 [] (gdV hws_104 hws_93 zw386 zw387 zw388 zw358 zw385) hws_93 rfl (by decide +kernel) rfl rfl ⟨by decide +kernel, by decide +kernel, by decide +kernel⟩ ⟨by decide, by decide⟩ (catch_nil rfl) RX6 rfl TX6 23 rfl ⟨by decide, by decide⟩ (dk_104_0 (6, .invokevirtual 120, 3) (List.mem_of_getElem? (i := 4) rfl)),
  List.forall_mem_cons.mpr ⟨sd_iret 104 9 rfl (dk_104_0 (9, .ireturn, 1) (List.mem_of_getElem? (i := 5) rfl)),
  fun _ h => nomatch h⟩⟩⟩⟩⟩⟩
def tb_104 : List (List (Nat × Op1)) := [tb_104_0]
theorem sm_104 : ∀ t ∈ tb_104, ∀ q ∈ t, SM GwP MdP D A l 104 q.1 q.2 := List.forall_mem_cons.mpr ⟨sm_104_0, fun _ h => nomatch h⟩
-- 105: MarginaliaModel.sign(II)I
def dl_105_0 : List (Nat × Instr × Nat) := [(0, .aload_n 0, 1), (1, .iconst 0, 1), (2, .putfield 65, 3), (5, .iload_n 1, 1), (6, .iconst 0, 1), (7, .aload_n 0, 1), (8, .getfield 79, 3), (11, .invokestatic 72, 3), (14, .ifCond .ne 9, 3), (17, .aload_n 0, 1), (18, .iconst 1, 1), (19, .invokevirtual 82, 3), (22, .ireturn, 1), (23, .iload_n 2, 1), (24, .iconst 0, 1), (25, .aload_n 0, 1), (26, .getfield 18, 3), (29, .iload_n 1, 1), (30, .aaload, 1), (31, .arraylength, 1), (32, .iconst 1, 1), (33, .isub, 1), (34, .invokestatic 72, 3), (37, .ifCond .eq 19, 3), (40, .aload_n 0, 1), (41, .getfield 13, 3), (44, .aload_n 0, 1), (45, .getfield 18, 3), (48, .iload_n 1, 1), (49, .aaload, 1), (50, .iload_n 2, 1), (51, .iaload, 1), (52, .iaload, 1), (53, .goto 4, 3), (56, .iconst (-1), 1), (57, .ireturn, 1)]
theorem dk_105_0 : ∀ q ∈ dl_105_0, decode (mCod (MdP 105)) q.1 = .ok q.2 := by
  rw [show mCod (MdP 105) = cX6_sign from rfl]
  decide +kernel
def tb_105_0 : List (Nat × Op1) := [(0, oLdR 0 1), (1, oCI 0 1), (2, oPutI 7 0), (5, oLdI 1 1), (6, oCI 0 1), (7, oLdR 0 1), (8, oGetI 7 6), (11, oCallS 94 3 3 []), (14, oZne 23), (17, oLdR 0 1), (18, oCI 1 1), (19, oCallV 91 1 2 7 []), (22, oRetI), (23, oLdI 2 1), (24, oCI 0 1), (25, oLdR 0 1), (26, oGetR 7 5), (29, oLdI 1 1), (30, oALdR 14), (31, oALen 10), (32, oCI 1 1), (33, oSub), (34, oCallS 94 3 3 []), (37, oZeq 56), (40, oLdR 0 1), (41, oGetR 7 4), (44, oLdR 0 1), (45, oGetR 7 5), (48, oLdI 1 1), (49, oALdR 14), (50, oLdI 2 1), (51, oALdI 10), (52, oALdI 10), (53, oGoto 57), (56, oCI (-1) 1), (57, oRetI)]
theorem sm_105_0 : ∀ q ∈ tb_105_0, SM GwP MdP D A l 105 q.1 q.2 :=
  List.forall_mem_cons.mpr ⟨sd_oLdR_n 105 0 0 0 rfl (dk_105_0 (0, .aload_n 0, 1) (List.mem_of_getElem? (i := 0) rfl)),
  List.forall_mem_cons.mpr ⟨sd_iconst 105 1 0 ⟨by decide, by decide⟩ (dk_105_0 (1, .iconst 0, 1) (List.mem_of_getElem? (i := 1) rfl)),
  List.forall_mem_cons.mpr ⟨sd_oPutI 105 2 7 0 65 RX6 TX6 23 rfl ⟨by decide, by decide⟩ rfl (by decide) rfl (fun w h => iw_105 w (uz_6 w h)) rfl tyX6 tyX6_ok nmX6 rfl rfl (iw_105 _ zw353) (dk_105_0 (2, .putfield 65, 3) (List.mem_of_getElem? (i := 2) rfl)),
  List.forall_mem_cons.mpr ⟨sd_oLdI_n 105 5 1 1 rfl (dk_105_0 (5, .iload_n 1, 1) (List.mem_of_getElem? (i := 3) rfl)),
  List.forall_mem_cons.mpr ⟨sd_iconst 105 6 0 ⟨by decide, by decide⟩ (dk_105_0 (6, .iconst 0, 1) (List.mem_of_getElem? (i := 4) rfl)),
  List.forall_mem_cons.mpr ⟨sd_oLdR_n 105 7 0 0 rfl (dk_105_0 (7, .aload_n 0, 1) (List.mem_of_getElem? (i := 5) rfl)),
  List.forall_mem_cons.mpr ⟨sd_oGetI 105 8 7 6 79 RX6 TX6 23 rfl ⟨by decide, by decide⟩ rfl (by decide) rfl (fun w h => iw_105 w (uz_6 w h)) rfl (iw_105 _ zw360) (dk_105_0 (8, .getfield 79, 3) (List.mem_of_getElem? (i := 6) rfl)),
  List.forall_mem_cons.mpr ⟨sd_callS 105 11 94 3 3 72 [] (gdS hws_105 hws_94 zw356 zw357 zw358 zw355) hws_94 rfl (by decide +kernel) rfl rfl ⟨by decide +kernel, by decide +kernel, by decide +kernel⟩ ⟨by decide, by decide⟩ (catch_nil rfl) (dk_105_0 (11, .invokestatic 72, 3) (List.mem_of_getElem? (i := 7) rfl)),
  List.forall_mem_cons.mpr ⟨sd_if_ne 105 14 9 23 (by decide) (dk_105_0 (14, .ifCond .ne 9, 3) (List.mem_of_getElem? (i := 8) rfl)),
  List.forall_mem_cons.mpr ⟨sd_oLdR_n 105 17 0 0 rfl (dk_105_0 (17, .aload_n 0, 1) (List.mem_of_getElem? (i := 9) rfl)),
  List.forall_mem_cons.mpr ⟨sd_iconst 105 18 1 ⟨by decide, by decide⟩ (dk_105_0 (18, .iconst 1, 1) (List.mem_of_getElem? (i := 10) rfl)),
  List.forall_mem_cons.mpr ⟨sd_callV 105 19 91 1 2 82 7 [] (gdV hws_105 hws_91 zw362 zw363 zw364 zw358 zw361) hws_91 rfl (by decide +kernel) rfl rfl ⟨by decide +kernel, by decide +kernel, by decide +kernel⟩ ⟨by decide, by decide⟩ (catch_nil rfl) RX6 rfl TX6 23 rfl ⟨by decide, by decide⟩ (dk_105_0 (19, .invokevirtual 82, 3) (List.mem_of_getElem? (i := 11) rfl)),
  List.forall_mem_cons.mpr ⟨sd_iret 105 22 rfl (dk_105_0 (22, .ireturn, 1) (List.mem_of_getElem? (i := 12) rfl)),
  List.forall_mem_cons.mpr ⟨sd_oLdI_n 105 23 2 2 rfl (dk_105_0 (23, .iload_n 2, 1) (List.mem_of_getElem? (i := 13) rfl)),
  List.forall_mem_cons.mpr ⟨sd_iconst 105 24 0 ⟨by decide, by decide⟩ (dk_105_0 (24, .iconst 0, 1) (List.mem_of_getElem? (i := 14) rfl)),
  List.forall_mem_cons.mpr ⟨sd_oLdR_n 105 25 0 0 rfl (dk_105_0 (25, .aload_n 0, 1) (List.mem_of_getElem? (i := 15) rfl)),
  List.forall_mem_cons.mpr ⟨sd_oGetR 105 26 7 5 18 RX6 TX6 23 rfl ⟨by decide, by decide⟩ rfl (by decide) rfl (fun w h => iw_105 w (uz_6 w h)) rfl (iw_105 _ zw336) (dk_105_0 (26, .getfield 18, 3) (List.mem_of_getElem? (i := 16) rfl)),
  List.forall_mem_cons.mpr ⟨sd_oLdI_n 105 29 1 1 rfl (dk_105_0 (29, .iload_n 1, 1) (List.mem_of_getElem? (i := 17) rfl)),
  List.forall_mem_cons.mpr ⟨sd_aaldA 105 30 (dk_105_0 (30, .aaload, 1) (List.mem_of_getElem? (i := 18) rfl)),
  List.forall_mem_cons.mpr ⟨sd_alen 105 31 10 ⟨by decide, by decide⟩ (dk_105_0 (31, .arraylength, 1) (List.mem_of_getElem? (i := 19) rfl)),
  List.forall_mem_cons.mpr ⟨sd_iconst 105 32 1 ⟨by decide, by decide⟩ (dk_105_0 (32, .iconst 1, 1) (List.mem_of_getElem? (i := 20) rfl)),
  List.forall_mem_cons.mpr ⟨sd_isub 105 33 (dk_105_0 (33, .isub, 1) (List.mem_of_getElem? (i := 21) rfl)),
  List.forall_mem_cons.mpr ⟨sd_callS 105 34 94 3 3 72 [] (gdS hws_105 hws_94 zw356 zw357 zw358 zw355) hws_94 rfl (by decide +kernel) rfl rfl ⟨by decide +kernel, by decide +kernel, by decide +kernel⟩ ⟨by decide, by decide⟩ (catch_nil rfl) (dk_105_0 (34, .invokestatic 72, 3) (List.mem_of_getElem? (i := 22) rfl)),
  List.forall_mem_cons.mpr ⟨sd_if_eq 105 37 19 56 (by decide) (dk_105_0 (37, .ifCond .eq 19, 3) (List.mem_of_getElem? (i := 23) rfl)),
  List.forall_mem_cons.mpr ⟨sd_oLdR_n 105 40 0 0 rfl (dk_105_0 (40, .aload_n 0, 1) (List.mem_of_getElem? (i := 24) rfl)),
  List.forall_mem_cons.mpr ⟨sd_oGetR 105 41 7 4 13 RX6 TX6 23 rfl ⟨by decide, by decide⟩ rfl (by decide) rfl (fun w h => iw_105 w (uz_6 w h)) rfl (iw_105 _ zw334) (dk_105_0 (41, .getfield 13, 3) (List.mem_of_getElem? (i := 25) rfl)),
  List.forall_mem_cons.mpr ⟨sd_oLdR_n 105 44 0 0 rfl (dk_105_0 (44, .aload_n 0, 1) (List.mem_of_getElem? (i := 26) rfl)),
  List.forall_mem_cons.mpr ⟨sd_oGetR 105 45 7 5 18 RX6 TX6 23 rfl ⟨by decide, by decide⟩ rfl (by decide) rfl (fun w h => iw_105 w (uz_6 w h)) rfl (iw_105 _ zw336) (dk_105_0 (45, .getfield 18, 3) (List.mem_of_getElem? (i := 27) rfl)),
  List.forall_mem_cons.mpr ⟨sd_oLdI_n 105 48 1 1 rfl (dk_105_0 (48, .iload_n 1, 1) (List.mem_of_getElem? (i := 28) rfl)),
  List.forall_mem_cons.mpr ⟨sd_aaldA 105 49 (dk_105_0 (49, .aaload, 1) (List.mem_of_getElem? (i := 29) rfl)),
  List.forall_mem_cons.mpr ⟨sd_oLdI_n 105 50 2 2 rfl (dk_105_0 (50, .iload_n 2, 1) (List.mem_of_getElem? (i := 30) rfl)),
  List.forall_mem_cons.mpr ⟨sd_iald 105 51 (dk_105_0 (51, .iaload, 1) (List.mem_of_getElem? (i := 31) rfl)),
  List.forall_mem_cons.mpr ⟨sd_iald 105 52 (dk_105_0 (52, .iaload, 1) (List.mem_of_getElem? (i := 32) rfl)),
  List.forall_mem_cons.mpr ⟨sd_goto 105 53 4 57 (by decide) (dk_105_0 (53, .goto 4, 3) (List.mem_of_getElem? (i := 33) rfl)),
  List.forall_mem_cons.mpr ⟨sd_iconst 105 56 (-1) ⟨by decide, by decide⟩ (dk_105_0 (56, .iconst (-1), 1) (List.mem_of_getElem? (i := 34) rfl)),
  List.forall_mem_cons.mpr ⟨sd_iret 105 57 rfl (dk_105_0 (57, .ireturn, 1) (List.mem_of_getElem? (i := 35) rfl)),
  fun _ h => nomatch h⟩⟩⟩⟩⟩⟩⟩⟩⟩⟩⟩⟩⟩⟩⟩⟩⟩⟩⟩⟩⟩⟩⟩⟩⟩⟩⟩⟩⟩⟩⟩⟩⟩⟩⟩⟩
def tb_105 : List (List (Nat × Op1)) := [tb_105_0]
theorem sm_105 : ∀ t ∈ tb_105, ∀ q ∈ t, SM GwP MdP D A l 105 q.1 q.2 := List.forall_mem_cons.mpr ⟨sm_105_0, fun _ h => nomatch h⟩
-- 106: MarginaliaModel.now(II)I
def dl_106_0 : List (Nat × Instr × Nat) := [(0, .aload_n 0, 1), (1, .iconst 0, 1), (2, .putfield 65, 3), (5, .iload_n 1, 1), (6, .iconst 0, 1), (7, .aload_n 0, 1), (8, .getfield 79, 3), (11, .invokestatic 72, 3), (14, .ifCond .eq 20, 3), (17, .iload_n 2, 1), (18, .iconst 0, 1), (19, .aload_n 0, 1), (20, .getfield 18, 3), (23, .iload_n 1, 1), (24, .aaload, 1), (25, .arraylength, 1), (26, .iconst 1, 1), (27, .isub, 1), (28, .invokestatic 72, 3), (31, .ifCond .ne 9, 3), (34, .aload_n 0, 1), (35, .iconst 1, 1), (36, .invokevirtual 82, 3), (39, .ireturn, 1), (40, .iconst 0, 1), (41, .istore_n 3, 1), (42, .iload_n 3, 1), (43, .aload_n 0, 1), (44, .invokevirtual 90, 3), (47, .arraylength, 1), (48, .if_icmp .ge 28, 3), (51, .aload_n 0, 1), (52, .invokevirtual 90, 3), (55, .iload_n 3, 1), (56, .iaload, 1), (57, .aload_n 0, 1), (58, .getfield 18, 3), (61, .iload_n 1, 1), (62, .aaload, 1), (63, .iload_n 2, 1)]
theorem dk_106_0 : ∀ q ∈ dl_106_0, decode (mCod (MdP 106)) q.1 = .ok q.2 := by
  rw [show mCod (MdP 106) = cX6_now from rfl]
  decide +kernel
def dl_106_1 : List (Nat × Instr × Nat) := [(64, .iaload, 1), (65, .if_icmp .ne 5, 3), (68, .iload_n 3, 1), (69, .ireturn, 1), (70, .iinc 3 1, 3), (73, .goto (-31), 3), (76, .iconst (-1), 1), (77, .ireturn, 1)]
theorem dk_106_1 : ∀ q ∈ dl_106_1, decode (mCod (MdP 106)) q.1 = .ok q.2 := by
  rw [show mCod (MdP 106) = cX6_now from rfl]
  decide +kernel
def tb_106_0 : List (Nat × Op1) := [(0, oLdR 0 1), (1, oCI 0 1), (2, oPutI 7 0), (5, oLdI 1 1), (6, oCI 0 1), (7, oLdR 0 1), (8, oGetI 7 6), (11, oCallS 94 3 3 []), (14, oZeq 34), (17, oLdI 2 1), (18, oCI 0 1), (19, oLdR 0 1), (20, oGetR 7 5), (23, oLdI 1 1), (24, oALdR 14), (25, oALen 10), (26, oCI 1 1), (27, oSub), (28, oCallS 94 3 3 []), (31, oZne 40), (34, oLdR 0 1), (35, oCI 1 1), (36, oCallV 91 1 2 7 []), (39, oRetI), (40, oCI 0 1), (41, oStI 3 1), (42, oLdI 3 1), (43, oLdR 0 1), (44, oCallV 97 0 1 7 []), (47, oALen 10), (48, oCge 76), (51, oLdR 0 1), (52, oCallV 97 0 1 7 []), (55, oLdI 3 1), (56, oALdI 10), (57, oLdR 0 1), (58, oGetR 7 5), (61, oLdI 1 1), (62, oALdR 14), (63, oLdI 2 1)]
theorem sm_106_0 : ∀ q ∈ tb_106_0, SM GwP MdP D A l 106 q.1 q.2 :=
  List.forall_mem_cons.mpr ⟨sd_oLdR_n 106 0 0 0 rfl (dk_106_0 (0, .aload_n 0, 1) (List.mem_of_getElem? (i := 0) rfl)),
  List.forall_mem_cons.mpr ⟨sd_iconst 106 1 0 ⟨by decide, by decide⟩ (dk_106_0 (1, .iconst 0, 1) (List.mem_of_getElem? (i := 1) rfl)),
  List.forall_mem_cons.mpr ⟨sd_oPutI 106 2 7 0 65 RX6 TX6 23 rfl ⟨by decide, by decide⟩ rfl (by decide) rfl (fun w h => iw_106 w (uz_6 w h)) rfl tyX6 tyX6_ok nmX6 rfl rfl (iw_106 _ zw353) (dk_106_0 (2, .putfield 65, 3) (List.mem_of_getElem? (i := 2) rfl)),
  List.forall_mem_cons.mpr ⟨sd_oLdI_n 106 5 1 1 rfl (dk_106_0 (5, .iload_n 1, 1) (List.mem_of_getElem? (i := 3) rfl)),
  List.forall_mem_cons.mpr ⟨sd_iconst 106 6 0 ⟨by decide, by decide⟩ (dk_106_0 (6, .iconst 0, 1) (List.mem_of_getElem? (i := 4) rfl)),
  List.forall_mem_cons.mpr ⟨sd_oLdR_n 106 7 0 0 rfl (dk_106_0 (7, .aload_n 0, 1) (List.mem_of_getElem? (i := 5) rfl)),
  List.forall_mem_cons.mpr ⟨sd_oGetI 106 8 7 6 79 RX6 TX6 23 rfl ⟨by decide, by decide⟩ rfl (by decide) rfl (fun w h => iw_106 w (uz_6 w h)) rfl (iw_106 _ zw360) (dk_106_0 (8, .getfield 79, 3) (List.mem_of_getElem? (i := 6) rfl)),
  List.forall_mem_cons.mpr ⟨sd_callS 106 11 94 3 3 72 [] (gdS hws_106 hws_94 zw356 zw357 zw358 zw355) hws_94 rfl (by decide +kernel) rfl rfl ⟨by decide +kernel, by decide +kernel, by decide +kernel⟩ ⟨by decide, by decide⟩ (catch_nil rfl) (dk_106_0 (11, .invokestatic 72, 3) (List.mem_of_getElem? (i := 7) rfl)),
  List.forall_mem_cons.mpr ⟨sd_if_eq 106 14 20 34 (by decide) (dk_106_0 (14, .ifCond .eq 20, 3) (List.mem_of_getElem? (i := 8) rfl)),
  List.forall_mem_cons.mpr ⟨sd_oLdI_n 106 17 2 2 rfl (dk_106_0 (17, .iload_n 2, 1) (List.mem_of_getElem? (i := 9) rfl)),
  List.forall_mem_cons.mpr ⟨sd_iconst 106 18 0 ⟨by decide, by decide⟩ (dk_106_0 (18, .iconst 0, 1) (List.mem_of_getElem? (i := 10) rfl)),
  List.forall_mem_cons.mpr ⟨sd_oLdR_n 106 19 0 0 rfl (dk_106_0 (19, .aload_n 0, 1) (List.mem_of_getElem? (i := 11) rfl)),
  List.forall_mem_cons.mpr ⟨sd_oGetR 106 20 7 5 18 RX6 TX6 23 rfl ⟨by decide, by decide⟩ rfl (by decide) rfl (fun w h => iw_106 w (uz_6 w h)) rfl (iw_106 _ zw336) (dk_106_0 (20, .getfield 18, 3) (List.mem_of_getElem? (i := 12) rfl)),
  List.forall_mem_cons.mpr ⟨sd_oLdI_n 106 23 1 1 rfl (dk_106_0 (23, .iload_n 1, 1) (List.mem_of_getElem? (i := 13) rfl)),
  List.forall_mem_cons.mpr ⟨sd_aaldA 106 24 (dk_106_0 (24, .aaload, 1) (List.mem_of_getElem? (i := 14) rfl)),
  List.forall_mem_cons.mpr ⟨sd_alen 106 25 10 ⟨by decide, by decide⟩ (dk_106_0 (25, .arraylength, 1) (List.mem_of_getElem? (i := 15) rfl)),
  List.forall_mem_cons.mpr ⟨sd_iconst 106 26 1 ⟨by decide, by decide⟩ (dk_106_0 (26, .iconst 1, 1) (List.mem_of_getElem? (i := 16) rfl)),
  List.forall_mem_cons.mpr ⟨sd_isub 106 27 (dk_106_0 (27, .isub, 1) (List.mem_of_getElem? (i := 17) rfl)),
  List.forall_mem_cons.mpr ⟨sd_callS 106 28 94 3 3 72 [] (gdS hws_106 hws_94 zw356 zw357 zw358 zw355) hws_94 rfl (by decide +kernel) rfl rfl ⟨by decide +kernel, by decide +kernel, by decide +kernel⟩ ⟨by decide, by decide⟩ (catch_nil rfl) (dk_106_0 (28, .invokestatic 72, 3) (List.mem_of_getElem? (i := 18) rfl)),
  List.forall_mem_cons.mpr ⟨sd_if_ne 106 31 9 40 (by decide) (dk_106_0 (31, .ifCond .ne 9, 3) (List.mem_of_getElem? (i := 19) rfl)),
  List.forall_mem_cons.mpr ⟨sd_oLdR_n 106 34 0 0 rfl (dk_106_0 (34, .aload_n 0, 1) (List.mem_of_getElem? (i := 20) rfl)),
  List.forall_mem_cons.mpr ⟨sd_iconst 106 35 1 ⟨by decide, by decide⟩ (dk_106_0 (35, .iconst 1, 1) (List.mem_of_getElem? (i := 21) rfl)),
  List.forall_mem_cons.mpr ⟨sd_callV 106 36 91 1 2 82 7 [] (gdV hws_106 hws_91 zw362 zw363 zw364 zw358 zw361) hws_91 rfl (by decide +kernel) rfl rfl ⟨by decide +kernel, by decide +kernel, by decide +kernel⟩ ⟨by decide, by decide⟩ (catch_nil rfl) RX6 rfl TX6 23 rfl ⟨by decide, by decide⟩ (dk_106_0 (36, .invokevirtual 82, 3) (List.mem_of_getElem? (i := 22) rfl)),
  List.forall_mem_cons.mpr ⟨sd_iret 106 39 rfl (dk_106_0 (39, .ireturn, 1) (List.mem_of_getElem? (i := 23) rfl)),
  List.forall_mem_cons.mpr ⟨sd_iconst 106 40 0 ⟨by decide, by decide⟩ (dk_106_0 (40, .iconst 0, 1) (List.mem_of_getElem? (i := 24) rfl)),
  List.forall_mem_cons.mpr ⟨sd_oStI_n 106 41 3 3 rfl (by decide) (dk_106_0 (41, .istore_n 3, 1) (List.mem_of_getElem? (i := 25) rfl)),
  List.forall_mem_cons.mpr ⟨sd_oLdI_n 106 42 3 3 rfl (dk_106_0 (42, .iload_n 3, 1) (List.mem_of_getElem? (i := 26) rfl)),
  List.forall_mem_cons.mpr ⟨sd_oLdR_n 106 43 0 0 rfl (dk_106_0 (43, .aload_n 0, 1) (List.mem_of_getElem? (i := 27) rfl)),
  List.forall_mem_cons.mpr ⟨sd_callV 106 44 97 0 1 90 7 [] (gdV hws_106 hws_97 zw370 zw371 zw372 zw358 zw369) hws_97 rfl (by decide +kernel) rfl rfl ⟨by decide +kernel, by decide +kernel, by decide +kernel⟩ ⟨by decide, by decide⟩ (catch_nil rfl) RX6 rfl TX6 23 rfl ⟨by decide, by decide⟩ (dk_106_0 (44, .invokevirtual 90, 3) (List.mem_of_getElem? (i := 28) rfl)),
  List.forall_mem_cons.mpr ⟨sd_alen 106 47 10 ⟨by decide, by decide⟩ (dk_106_0 (47, .arraylength, 1) (List.mem_of_getElem? (i := 29) rfl)),
  List.forall_mem_cons.mpr ⟨sd_icmp_ge 106 48 28 76 (by decide) (dk_106_0 (48, .if_icmp .ge 28, 3) (List.mem_of_getElem? (i := 30) rfl)),
  List.forall_mem_cons.mpr ⟨sd_oLdR_n 106 51 0 0 rfl (dk_106_0 (51, .aload_n 0, 1) (List.mem_of_getElem? (i := 31) rfl)),
  List.forall_mem_cons.mpr ⟨sd_callV 106 52 97 0 1 90 7 [] (gdV hws_106 hws_97 zw370 zw371 zw372 zw358 zw369) hws_97 rfl (by decide +kernel) rfl rfl ⟨by decide +kernel, by decide +kernel, by decide +kernel⟩ ⟨by decide, by decide⟩ (catch_nil rfl) RX6 rfl TX6 23 rfl ⟨by decide, by decide⟩ (dk_106_0 (52, .invokevirtual 90, 3) (List.mem_of_getElem? (i := 32) rfl)),
  List.forall_mem_cons.mpr ⟨sd_oLdI_n 106 55 3 3 rfl (dk_106_0 (55, .iload_n 3, 1) (List.mem_of_getElem? (i := 33) rfl)),
  List.forall_mem_cons.mpr ⟨sd_iald 106 56 (dk_106_0 (56, .iaload, 1) (List.mem_of_getElem? (i := 34) rfl)),
  List.forall_mem_cons.mpr ⟨sd_oLdR_n 106 57 0 0 rfl (dk_106_0 (57, .aload_n 0, 1) (List.mem_of_getElem? (i := 35) rfl)),
  List.forall_mem_cons.mpr ⟨sd_oGetR 106 58 7 5 18 RX6 TX6 23 rfl ⟨by decide, by decide⟩ rfl (by decide) rfl (fun w h => iw_106 w (uz_6 w h)) rfl (iw_106 _ zw336) (dk_106_0 (58, .getfield 18, 3) (List.mem_of_getElem? (i := 36) rfl)),
  List.forall_mem_cons.mpr ⟨sd_oLdI_n 106 61 1 1 rfl (dk_106_0 (61, .iload_n 1, 1) (List.mem_of_getElem? (i := 37) rfl)),
  List.forall_mem_cons.mpr ⟨sd_aaldA 106 62 (dk_106_0 (62, .aaload, 1) (List.mem_of_getElem? (i := 38) rfl)),
  List.forall_mem_cons.mpr ⟨sd_oLdI_n 106 63 2 2 rfl (dk_106_0 (63, .iload_n 2, 1) (List.mem_of_getElem? (i := 39) rfl)),
  fun _ h => nomatch h⟩⟩⟩⟩⟩⟩⟩⟩⟩⟩⟩⟩⟩⟩⟩⟩⟩⟩⟩⟩⟩⟩⟩⟩⟩⟩⟩⟩⟩⟩⟩⟩⟩⟩⟩⟩⟩⟩⟩⟩
def tb_106_1 : List (Nat × Op1) := [(64, oALdI 10), (65, oCne 70), (68, oLdI 3 1), (69, oRetI), (70, oInc 3 1), (73, oGoto 42), (76, oCI (-1) 1), (77, oRetI)]
theorem sm_106_1 : ∀ q ∈ tb_106_1, SM GwP MdP D A l 106 q.1 q.2 :=
  List.forall_mem_cons.mpr ⟨sd_iald 106 64 (dk_106_1 (64, .iaload, 1) (List.mem_of_getElem? (i := 0) rfl)),
  List.forall_mem_cons.mpr ⟨sd_icmp_ne 106 65 5 70 (by decide) (dk_106_1 (65, .if_icmp .ne 5, 3) (List.mem_of_getElem? (i := 1) rfl)),
  List.forall_mem_cons.mpr ⟨sd_oLdI_n 106 68 3 3 rfl (dk_106_1 (68, .iload_n 3, 1) (List.mem_of_getElem? (i := 2) rfl)),
  List.forall_mem_cons.mpr ⟨sd_iret 106 69 rfl (dk_106_1 (69, .ireturn, 1) (List.mem_of_getElem? (i := 3) rfl)),
  List.forall_mem_cons.mpr ⟨sd_iinc 106 70 3 1 (by decide) (dk_106_1 (70, .iinc 3 1, 3) (List.mem_of_getElem? (i := 4) rfl)),
  List.forall_mem_cons.mpr ⟨sd_goto 106 73 (-31) 42 (by decide) (dk_106_1 (73, .goto (-31), 3) (List.mem_of_getElem? (i := 5) rfl)),
  List.forall_mem_cons.mpr ⟨sd_iconst 106 76 (-1) ⟨by decide, by decide⟩ (dk_106_1 (76, .iconst (-1), 1) (List.mem_of_getElem? (i := 6) rfl)),
  List.forall_mem_cons.mpr ⟨sd_iret 106 77 rfl (dk_106_1 (77, .ireturn, 1) (List.mem_of_getElem? (i := 7) rfl)),
  fun _ h => nomatch h⟩⟩⟩⟩⟩⟩⟩⟩
def tb_106 : List (List (Nat × Op1)) := [tb_106_0, tb_106_1]
theorem sm_106 : ∀ t ∈ tb_106, ∀ q ∈ t, SM GwP MdP D A l 106 q.1 q.2 := List.forall_mem_cons.mpr ⟨sm_106_0, List.forall_mem_cons.mpr ⟨sm_106_1, fun _ h => nomatch h⟩⟩
-- 107: MarginaliaModel.version()I
def dl_107_0 : List (Nat × Instr × Nat) := [(0, .aload_n 0, 1), (1, .aload_n 0, 1), (2, .getfield 79, 3), (5, .invokevirtual 120, 3), (8, .ireturn, 1)]
theorem dk_107_0 : ∀ q ∈ dl_107_0, decode (mCod (MdP 107)) q.1 = .ok q.2 := by
  rw [show mCod (MdP 107) = cX6_version from rfl]
  decide +kernel
def tb_107_0 : List (Nat × Op1) := [(0, oLdR 0 1), (1, oLdR 0 1), (2, oGetI 7 6), (5, oCallV 93 1 2 7 []), (8, oRetI)]
theorem sm_107_0 : ∀ q ∈ tb_107_0, SM GwP MdP D A l 107 q.1 q.2 :=
  List.forall_mem_cons.mpr ⟨sd_oLdR_n 107 0 0 0 rfl (dk_107_0 (0, .aload_n 0, 1) (List.mem_of_getElem? (i := 0) rfl)),
  List.forall_mem_cons.mpr ⟨sd_oLdR_n 107 1 0 0 rfl (dk_107_0 (1, .aload_n 0, 1) (List.mem_of_getElem? (i := 1) rfl)),
  List.forall_mem_cons.mpr ⟨sd_oGetI 107 2 7 6 79 RX6 TX6 23 rfl ⟨by decide, by decide⟩ rfl (by decide) rfl (fun w h => iw_107 w (uz_6 w h)) rfl (iw_107 _ zw360) (dk_107_0 (2, .getfield 79, 3) (List.mem_of_getElem? (i := 2) rfl)),
  List.forall_mem_cons.mpr ⟨sd_callV 107 5 93 1 2 120 7 [] (gdV hws_107 hws_93 zw386 zw387 zw388 zw358 zw385) hws_93 rfl (by decide +kernel) rfl rfl ⟨by decide +kernel, by decide +kernel, by decide +kernel⟩ ⟨by decide, by decide⟩ (catch_nil rfl) RX6 rfl TX6 23 rfl ⟨by decide, by decide⟩ (dk_107_0 (5, .invokevirtual 120, 3) (List.mem_of_getElem? (i := 3) rfl)),
  List.forall_mem_cons.mpr ⟨sd_iret 107 8 rfl (dk_107_0 (8, .ireturn, 1) (List.mem_of_getElem? (i := 4) rfl)),
  fun _ h => nomatch h⟩⟩⟩⟩⟩
def tb_107 : List (List (Nat × Op1)) := [tb_107_0]
theorem sm_107 : ∀ t ∈ tb_107, ∀ q ∈ t, SM GwP MdP D A l 107 q.1 q.2 := List.forall_mem_cons.mpr ⟨sm_107_0, fun _ h => nomatch h⟩
-- 108: MarginaliaModel.seesBy(III)Z
def dl_108_0 : List (Nat × Instr × Nat) := [(0, .iload_n 2, 1), (1, .ifCond .le 47, 3), (4, .aload_n 0, 1), (5, .getfield 42, 3), (8, .iload_n 3, 1), (9, .iaload, 1), (10, .iconst 2, 1), (11, .if_icmp .eq 33, 3), (14, .aload_n 0, 1), (15, .getfield 42, 3), (18, .iload_n 3, 1), (19, .iaload, 1), (20, .iconst 1, 1), (21, .if_icmp .ne 8, 3), (24, .iload_n 2, 1), (25, .iconst 2, 1), (26, .if_icmp .ge 18, 3), (29, .aload_n 0, 1), (30, .getfield 21, 3), (33, .iload_n 3, 1), (34, .iaload, 1), (35, .iload_n 1, 1), (36, .if_icmp .eq 8, 3), (39, .iload_n 2, 1), (40, .iconst 4, 1), (41, .if_icmp .ne 7, 3), (44, .iconst 1, 1), (45, .goto 4, 3), (48, .iconst 0, 1), (49, .ireturn, 1)]
theorem dk_108_0 : ∀ q ∈ dl_108_0, decode (mCod (MdP 108)) q.1 = .ok q.2 := by
  rw [show mCod (MdP 108) = cX6_seesBy from rfl]
  decide +kernel
def tb_108_0 : List (Nat × Op1) := [(0, oLdI 2 1), (1, oZle 48), (4, oLdR 0 1), (5, oGetR 7 15), (8, oLdI 3 1), (9, oALdI 10), (10, oCI 2 1), (11, oCeq 44), (14, oLdR 0 1), (15, oGetR 7 15), (18, oLdI 3 1), (19, oALdI 10), (20, oCI 1 1), (21, oCne 29), (24, oLdI 2 1), (25, oCI 2 1), (26, oCge 44), (29, oLdR 0 1), (30, oGetR 7 8), (33, oLdI 3 1), (34, oALdI 10), (35, oLdI 1 1), (36, oCeq 44), (39, oLdI 2 1), (40, oCI 4 1), (41, oCne 48), (44, oCI 1 1), (45, oGoto 49), (48, oCI 0 1), (49, oRetZ)]
theorem sm_108_0 : ∀ q ∈ tb_108_0, SM GwP MdP D A l 108 q.1 q.2 :=
  List.forall_mem_cons.mpr ⟨sd_oLdI_n 108 0 2 2 rfl (dk_108_0 (0, .iload_n 2, 1) (List.mem_of_getElem? (i := 0) rfl)),
  List.forall_mem_cons.mpr ⟨sd_if_le 108 1 47 48 (by decide) (dk_108_0 (1, .ifCond .le 47, 3) (List.mem_of_getElem? (i := 1) rfl)),
  List.forall_mem_cons.mpr ⟨sd_oLdR_n 108 4 0 0 rfl (dk_108_0 (4, .aload_n 0, 1) (List.mem_of_getElem? (i := 2) rfl)),
  List.forall_mem_cons.mpr ⟨sd_oGetR 108 5 7 15 42 RX6 TX6 23 rfl ⟨by decide, by decide⟩ rfl (by decide) rfl (fun w h => iw_108 w (uz_6 w h)) rfl (iw_108 _ zw344) (dk_108_0 (5, .getfield 42, 3) (List.mem_of_getElem? (i := 3) rfl)),
  List.forall_mem_cons.mpr ⟨sd_oLdI_n 108 8 3 3 rfl (dk_108_0 (8, .iload_n 3, 1) (List.mem_of_getElem? (i := 4) rfl)),
  List.forall_mem_cons.mpr ⟨sd_iald 108 9 (dk_108_0 (9, .iaload, 1) (List.mem_of_getElem? (i := 5) rfl)),
  List.forall_mem_cons.mpr ⟨sd_iconst 108 10 2 ⟨by decide, by decide⟩ (dk_108_0 (10, .iconst 2, 1) (List.mem_of_getElem? (i := 6) rfl)),
  List.forall_mem_cons.mpr ⟨sd_icmp_eq 108 11 33 44 (by decide) (dk_108_0 (11, .if_icmp .eq 33, 3) (List.mem_of_getElem? (i := 7) rfl)),
  List.forall_mem_cons.mpr ⟨sd_oLdR_n 108 14 0 0 rfl (dk_108_0 (14, .aload_n 0, 1) (List.mem_of_getElem? (i := 8) rfl)),
  List.forall_mem_cons.mpr ⟨sd_oGetR 108 15 7 15 42 RX6 TX6 23 rfl ⟨by decide, by decide⟩ rfl (by decide) rfl (fun w h => iw_108 w (uz_6 w h)) rfl (iw_108 _ zw344) (dk_108_0 (15, .getfield 42, 3) (List.mem_of_getElem? (i := 9) rfl)),
  List.forall_mem_cons.mpr ⟨sd_oLdI_n 108 18 3 3 rfl (dk_108_0 (18, .iload_n 3, 1) (List.mem_of_getElem? (i := 10) rfl)),
  List.forall_mem_cons.mpr ⟨sd_iald 108 19 (dk_108_0 (19, .iaload, 1) (List.mem_of_getElem? (i := 11) rfl)),
  List.forall_mem_cons.mpr ⟨sd_iconst 108 20 1 ⟨by decide, by decide⟩ (dk_108_0 (20, .iconst 1, 1) (List.mem_of_getElem? (i := 12) rfl)),
  List.forall_mem_cons.mpr ⟨sd_icmp_ne 108 21 8 29 (by decide) (dk_108_0 (21, .if_icmp .ne 8, 3) (List.mem_of_getElem? (i := 13) rfl)),
  List.forall_mem_cons.mpr ⟨sd_oLdI_n 108 24 2 2 rfl (dk_108_0 (24, .iload_n 2, 1) (List.mem_of_getElem? (i := 14) rfl)),
  List.forall_mem_cons.mpr ⟨sd_iconst 108 25 2 ⟨by decide, by decide⟩ (dk_108_0 (25, .iconst 2, 1) (List.mem_of_getElem? (i := 15) rfl)),
  List.forall_mem_cons.mpr ⟨sd_icmp_ge 108 26 18 44 (by decide) (dk_108_0 (26, .if_icmp .ge 18, 3) (List.mem_of_getElem? (i := 16) rfl)),
  List.forall_mem_cons.mpr ⟨sd_oLdR_n 108 29 0 0 rfl (dk_108_0 (29, .aload_n 0, 1) (List.mem_of_getElem? (i := 17) rfl)),
  List.forall_mem_cons.mpr ⟨sd_oGetR 108 30 7 8 21 RX6 TX6 23 rfl ⟨by decide, by decide⟩ rfl (by decide) rfl (fun w h => iw_108 w (uz_6 w h)) rfl (iw_108 _ zw337) (dk_108_0 (30, .getfield 21, 3) (List.mem_of_getElem? (i := 18) rfl)),
  List.forall_mem_cons.mpr ⟨sd_oLdI_n 108 33 3 3 rfl (dk_108_0 (33, .iload_n 3, 1) (List.mem_of_getElem? (i := 19) rfl)),
  List.forall_mem_cons.mpr ⟨sd_iald 108 34 (dk_108_0 (34, .iaload, 1) (List.mem_of_getElem? (i := 20) rfl)),
  List.forall_mem_cons.mpr ⟨sd_oLdI_n 108 35 1 1 rfl (dk_108_0 (35, .iload_n 1, 1) (List.mem_of_getElem? (i := 21) rfl)),
  List.forall_mem_cons.mpr ⟨sd_icmp_eq 108 36 8 44 (by decide) (dk_108_0 (36, .if_icmp .eq 8, 3) (List.mem_of_getElem? (i := 22) rfl)),
  List.forall_mem_cons.mpr ⟨sd_oLdI_n 108 39 2 2 rfl (dk_108_0 (39, .iload_n 2, 1) (List.mem_of_getElem? (i := 23) rfl)),
  List.forall_mem_cons.mpr ⟨sd_iconst 108 40 4 ⟨by decide, by decide⟩ (dk_108_0 (40, .iconst 4, 1) (List.mem_of_getElem? (i := 24) rfl)),
  List.forall_mem_cons.mpr ⟨sd_icmp_ne 108 41 7 48 (by decide) (dk_108_0 (41, .if_icmp .ne 7, 3) (List.mem_of_getElem? (i := 25) rfl)),
  List.forall_mem_cons.mpr ⟨sd_iconst 108 44 1 ⟨by decide, by decide⟩ (dk_108_0 (44, .iconst 1, 1) (List.mem_of_getElem? (i := 26) rfl)),
  List.forall_mem_cons.mpr ⟨sd_goto 108 45 4 49 (by decide) (dk_108_0 (45, .goto 4, 3) (List.mem_of_getElem? (i := 27) rfl)),
  List.forall_mem_cons.mpr ⟨sd_iconst 108 48 0 ⟨by decide, by decide⟩ (dk_108_0 (48, .iconst 0, 1) (List.mem_of_getElem? (i := 28) rfl)),
  List.forall_mem_cons.mpr ⟨sd_zret 108 49 rfl (dk_108_0 (49, .ireturn, 1) (List.mem_of_getElem? (i := 29) rfl)),
  fun _ h => nomatch h⟩⟩⟩⟩⟩⟩⟩⟩⟩⟩⟩⟩⟩⟩⟩⟩⟩⟩⟩⟩⟩⟩⟩⟩⟩⟩⟩⟩⟩⟩
def tb_108 : List (List (Nat × Op1)) := [tb_108_0]
theorem sm_108 : ∀ t ∈ tb_108, ∀ q ∈ t, SM GwP MdP D A l 108 q.1 q.2 := List.forall_mem_cons.mpr ⟨sm_108_0, fun _ h => nomatch h⟩
-- 109: MarginaliaModel.seesNow(II)Z
def dl_109_0 : List (Nat × Instr × Nat) := [(0, .aload_n 0, 1), (1, .iload_n 1, 1), (2, .aload_n 0, 1), (3, .getfield 9, 3), (6, .iload_n 1, 1), (7, .iaload, 1), (8, .aload_n 0, 1), (9, .getfield 30, 3), (12, .iload_n 2, 1), (13, .iaload, 1), (14, .invokevirtual 123, 3), (17, .ireturn, 1)]
theorem dk_109_0 : ∀ q ∈ dl_109_0, decode (mCod (MdP 109)) q.1 = .ok q.2 := by
  rw [show mCod (MdP 109) = cX6_seesNow from rfl]
  decide +kernel
def tb_109_0 : List (Nat × Op1) := [(0, oLdR 0 1), (1, oLdI 1 1), (2, oLdR 0 1), (3, oGetR 7 2), (6, oLdI 1 1), (7, oALdI 10), (8, oLdR 0 1), (9, oGetR 7 11), (12, oLdI 2 1), (13, oALdI 10), (14, oCallV 108 3 4 7 []), (17, oRetZ)]
theorem sm_109_0 : ∀ q ∈ tb_109_0, SM GwP MdP D A l 109 q.1 q.2 :=
  List.forall_mem_cons.mpr ⟨sd_oLdR_n 109 0 0 0 rfl (dk_109_0 (0, .aload_n 0, 1) (List.mem_of_getElem? (i := 0) rfl)),
  List.forall_mem_cons.mpr ⟨sd_oLdI_n 109 1 1 1 rfl (dk_109_0 (1, .iload_n 1, 1) (List.mem_of_getElem? (i := 1) rfl)),
  List.forall_mem_cons.mpr ⟨sd_oLdR_n 109 2 0 0 rfl (dk_109_0 (2, .aload_n 0, 1) (List.mem_of_getElem? (i := 2) rfl)),
  List.forall_mem_cons.mpr ⟨sd_oGetR 109 3 7 2 9 RX6 TX6 23 rfl ⟨by decide, by decide⟩ rfl (by decide) rfl (fun w h => iw_109 w (uz_6 w h)) rfl (iw_109 _ zw333) (dk_109_0 (3, .getfield 9, 3) (List.mem_of_getElem? (i := 3) rfl)),
  List.forall_mem_cons.mpr ⟨sd_oLdI_n 109 6 1 1 rfl (dk_109_0 (6, .iload_n 1, 1) (List.mem_of_getElem? (i := 4) rfl)),
  List.forall_mem_cons.mpr ⟨sd_iald 109 7 (dk_109_0 (7, .iaload, 1) (List.mem_of_getElem? (i := 5) rfl)),
  List.forall_mem_cons.mpr ⟨sd_oLdR_n 109 8 0 0 rfl (dk_109_0 (8, .aload_n 0, 1) (List.mem_of_getElem? (i := 6) rfl)),
  List.forall_mem_cons.mpr ⟨sd_oGetR 109 9 7 11 30 RX6 TX6 23 rfl ⟨by decide, by decide⟩ rfl (by decide) rfl (fun w h => iw_109 w (uz_6 w h)) rfl (iw_109 _ zw340) (dk_109_0 (9, .getfield 30, 3) (List.mem_of_getElem? (i := 7) rfl)),
  List.forall_mem_cons.mpr ⟨sd_oLdI_n 109 12 2 2 rfl (dk_109_0 (12, .iload_n 2, 1) (List.mem_of_getElem? (i := 8) rfl)),
  List.forall_mem_cons.mpr ⟨sd_iald 109 13 (dk_109_0 (13, .iaload, 1) (List.mem_of_getElem? (i := 9) rfl)),
  List.forall_mem_cons.mpr ⟨sd_callV 109 14 108 3 4 123 7 [] (gdV hws_109 hws_108 zw390 zw391 zw392 zw358 zw389) hws_108 rfl (by decide +kernel) rfl rfl ⟨by decide +kernel, by decide +kernel, by decide +kernel⟩ ⟨by decide, by decide⟩ (catch_nil rfl) RX6 rfl TX6 23 rfl ⟨by decide, by decide⟩ (dk_109_0 (14, .invokevirtual 123, 3) (List.mem_of_getElem? (i := 10) rfl)),
  List.forall_mem_cons.mpr ⟨sd_zret 109 17 rfl (dk_109_0 (17, .ireturn, 1) (List.mem_of_getElem? (i := 11) rfl)),
  fun _ h => nomatch h⟩⟩⟩⟩⟩⟩⟩⟩⟩⟩⟩⟩
def tb_109 : List (List (Nat × Op1)) := [tb_109_0]
theorem sm_109 : ∀ t ∈ tb_109, ∀ q ∈ t, SM GwP MdP D A l 109 q.1 q.2 := List.forall_mem_cons.mpr ⟨sm_109_0, fun _ h => nomatch h⟩
-- 110: MarginaliaModel.may(III)Z
def dl_110_0 : List (Nat × Instr × Nat) := [(0, .aload_n 0, 1), (1, .getfield 9, 3), (4, .iload_n 1, 1), (5, .iaload, 1), (6, .iload_n 3, 1), (7, .if_icmp .lt 16, 3), (10, .aload_n 0, 1), (11, .iload_n 1, 1), (12, .iload_n 2, 1), (13, .invokevirtual 126, 3), (16, .ifCond .eq 7, 3), (19, .iconst 1, 1), (20, .goto 4, 3), (23, .iconst 0, 1), (24, .ireturn, 1)]
theorem dk_110_0 : ∀ q ∈ dl_110_0, decode (mCod (MdP 110)) q.1 = .ok q.2 := by
  rw [show mCod (MdP 110) = cX6_may from rfl]
  decide +kernel
def tb_110_0 : List (Nat × Op1) := [(0, oLdR 0 1), (1, oGetR 7 2), (4, oLdI 1 1), (5, oALdI 10), (6, oLdI 3 1), (7, oClt 23), (10, oLdR 0 1), (11, oLdI 1 1), (12, oLdI 2 1), (13, oCallV 109 2 3 7 []), (16, oZeq 23), (19, oCI 1 1), (20, oGoto 24), (23, oCI 0 1), (24, oRetZ)]
theorem sm_110_0 : ∀ q ∈ tb_110_0, SM GwP MdP D A l 110 q.1 q.2 :=
  List.forall_mem_cons.mpr ⟨sd_oLdR_n 110 0 0 0 rfl (dk_110_0 (0, .aload_n 0, 1) (List.mem_of_getElem? (i := 0) rfl)),
  List.forall_mem_cons.mpr ⟨sd_oGetR 110 1 7 2 9 RX6 TX6 23 rfl ⟨by decide, by decide⟩ rfl (by decide) rfl (fun w h => iw_110 w (uz_6 w h)) rfl (iw_110 _ zw333) (dk_110_0 (1, .getfield 9, 3) (List.mem_of_getElem? (i := 1) rfl)),
  List.forall_mem_cons.mpr ⟨sd_oLdI_n 110 4 1 1 rfl (dk_110_0 (4, .iload_n 1, 1) (List.mem_of_getElem? (i := 2) rfl)),
  List.forall_mem_cons.mpr ⟨sd_iald 110 5 (dk_110_0 (5, .iaload, 1) (List.mem_of_getElem? (i := 3) rfl)),
  List.forall_mem_cons.mpr ⟨sd_oLdI_n 110 6 3 3 rfl (dk_110_0 (6, .iload_n 3, 1) (List.mem_of_getElem? (i := 4) rfl)),
  List.forall_mem_cons.mpr ⟨sd_icmp_lt 110 7 16 23 (by decide) (dk_110_0 (7, .if_icmp .lt 16, 3) (List.mem_of_getElem? (i := 5) rfl)),
  List.forall_mem_cons.mpr ⟨sd_oLdR_n 110 10 0 0 rfl (dk_110_0 (10, .aload_n 0, 1) (List.mem_of_getElem? (i := 6) rfl)),
  List.forall_mem_cons.mpr ⟨sd_oLdI_n 110 11 1 1 rfl (dk_110_0 (11, .iload_n 1, 1) (List.mem_of_getElem? (i := 7) rfl)),
  List.forall_mem_cons.mpr ⟨sd_oLdI_n 110 12 2 2 rfl (dk_110_0 (12, .iload_n 2, 1) (List.mem_of_getElem? (i := 8) rfl)),
  List.forall_mem_cons.mpr ⟨sd_callV 110 13 109 2 3 126 7 [] (gdV hws_110 hws_109 zw394 zw395 zw396 zw358 zw393) hws_109 rfl (by decide +kernel) rfl rfl ⟨by decide +kernel, by decide +kernel, by decide +kernel⟩ ⟨by decide, by decide⟩ (catch_nil rfl) RX6 rfl TX6 23 rfl ⟨by decide, by decide⟩ (dk_110_0 (13, .invokevirtual 126, 3) (List.mem_of_getElem? (i := 9) rfl)),
  List.forall_mem_cons.mpr ⟨sd_if_eq 110 16 7 23 (by decide) (dk_110_0 (16, .ifCond .eq 7, 3) (List.mem_of_getElem? (i := 10) rfl)),
  List.forall_mem_cons.mpr ⟨sd_iconst 110 19 1 ⟨by decide, by decide⟩ (dk_110_0 (19, .iconst 1, 1) (List.mem_of_getElem? (i := 11) rfl)),
  List.forall_mem_cons.mpr ⟨sd_goto 110 20 4 24 (by decide) (dk_110_0 (20, .goto 4, 3) (List.mem_of_getElem? (i := 12) rfl)),
  List.forall_mem_cons.mpr ⟨sd_iconst 110 23 0 ⟨by decide, by decide⟩ (dk_110_0 (23, .iconst 0, 1) (List.mem_of_getElem? (i := 13) rfl)),
  List.forall_mem_cons.mpr ⟨sd_zret 110 24 rfl (dk_110_0 (24, .ireturn, 1) (List.mem_of_getElem? (i := 14) rfl)),
  fun _ h => nomatch h⟩⟩⟩⟩⟩⟩⟩⟩⟩⟩⟩⟩⟩⟩⟩
def tb_110 : List (List (Nat × Op1)) := [tb_110_0]
theorem sm_110 : ∀ t ∈ tb_110, ∀ q ∈ t, SM GwP MdP D A l 110 q.1 q.2 := List.forall_mem_cons.mpr ⟨sm_110_0, fun _ h => nomatch h⟩
-- 111: MarginaliaModel.add(III)I
def dl_111_0 : List (Nat × Instr × Nat) := [(0, .aload_n 0, 1), (1, .getfield 21, 3), (4, .aload_n 0, 1), (5, .getfield 76, 3), (8, .iload_n 1, 1), (9, .iastore, 1), (10, .aload_n 0, 1), (11, .getfield 24, 3), (14, .aload_n 0, 1), (15, .getfield 76, 3), (18, .iload_n 2, 1), (19, .iastore, 1), (20, .aload_n 0, 1), (21, .getfield 27, 3), (24, .aload_n 0, 1), (25, .getfield 76, 3), (28, .iload_n 3, 1), (29, .iastore, 1), (30, .aload_n 0, 1), (31, .getfield 30, 3), (34, .aload_n 0, 1), (35, .getfield 76, 3), (38, .iload_n 3, 1), (39, .iconst (-1), 1), (40, .if_icmp .ne 10, 3), (43, .aload_n 0, 1), (44, .getfield 76, 3), (47, .goto 9, 3), (50, .aload_n 0, 1), (51, .getfield 30, 3), (54, .iload_n 3, 1), (55, .iaload, 1), (56, .iastore, 1), (57, .aload_n 0, 1), (58, .dup, 1), (59, .getfield 76, 3), (62, .dup_x1, 1), (63, .iconst 1, 1), (64, .iadd, 1), (65, .putfield 76, 3)]
theorem dk_111_0 : ∀ q ∈ dl_111_0, decode (mCod (MdP 111)) q.1 = .ok q.2 := by
  rw [show mCod (MdP 111) = cX6_add from rfl]
  decide +kernel
def dl_111_1 : List (Nat × Instr × Nat) := [(68, .ireturn, 1)]
theorem dk_111_1 : ∀ q ∈ dl_111_1, decode (mCod (MdP 111)) q.1 = .ok q.2 := by
  rw [show mCod (MdP 111) = cX6_add from rfl]
  decide +kernel
def tb_111_0 : List (Nat × Op1) := [(0, oLdR 0 1), (1, oGetR 7 8), (4, oLdR 0 1), (5, oGetI 7 7), (8, oLdI 1 1), (9, oAStI), (10, oLdR 0 1), (11, oGetR 7 9), (14, oLdR 0 1), (15, oGetI 7 7), (18, oLdI 2 1), (19, oAStI), (20, oLdR 0 1), (21, oGetR 7 10), (24, oLdR 0 1), (25, oGetI 7 7), (28, oLdI 3 1), (29, oAStI), (30, oLdR 0 1), (31, oGetR 7 11), (34, oLdR 0 1), (35, oGetI 7 7), (38, oLdI 3 1), (39, oCI (-1) 1), (40, oCne 50), (43, oLdR 0 1), (44, oGetI 7 7), (47, oGoto 56), (50, oLdR 0 1), (51, oGetR 7 11), (54, oLdI 3 1), (55, oALdI 10), (56, oAStI), (57, oLdR 0 1), (58, oDup), (59, oGetI 7 7), (62, oDupX1), (63, oCI 1 1)]
theorem sm_111_0 : ∀ q ∈ tb_111_0, SM GwP MdP D A l 111 q.1 q.2 :=
  List.forall_mem_cons.mpr ⟨sd_oLdR_n 111 0 0 0 rfl (dk_111_0 (0, .aload_n 0, 1) (List.mem_of_getElem? (i := 0) rfl)),
  List.forall_mem_cons.mpr ⟨sd_oGetR 111 1 7 8 21 RX6 TX6 23 rfl ⟨by decide, by decide⟩ rfl (by decide) rfl (fun w h => iw_111 w (uz_6 w h)) rfl (iw_111 _ zw337) (dk_111_0 (1, .getfield 21, 3) (List.mem_of_getElem? (i := 1) rfl)),
  List.forall_mem_cons.mpr ⟨sd_oLdR_n 111 4 0 0 rfl (dk_111_0 (4, .aload_n 0, 1) (List.mem_of_getElem? (i := 2) rfl)),
  List.forall_mem_cons.mpr ⟨sd_oGetI 111 5 7 7 76 RX6 TX6 23 rfl ⟨by decide, by decide⟩ rfl (by decide) rfl (fun w h => iw_111 w (uz_6 w h)) rfl (iw_111 _ zw359) (dk_111_0 (5, .getfield 76, 3) (List.mem_of_getElem? (i := 3) rfl)),
  List.forall_mem_cons.mpr ⟨sd_oLdI_n 111 8 1 1 rfl (dk_111_0 (8, .iload_n 1, 1) (List.mem_of_getElem? (i := 4) rfl)),
  List.forall_mem_cons.mpr ⟨sd_iast 111 9 (dk_111_0 (9, .iastore, 1) (List.mem_of_getElem? (i := 5) rfl)),
  List.forall_mem_cons.mpr ⟨sd_oLdR_n 111 10 0 0 rfl (dk_111_0 (10, .aload_n 0, 1) (List.mem_of_getElem? (i := 6) rfl)),
  List.forall_mem_cons.mpr ⟨sd_oGetR 111 11 7 9 24 RX6 TX6 23 rfl ⟨by decide, by decide⟩ rfl (by decide) rfl (fun w h => iw_111 w (uz_6 w h)) rfl (iw_111 _ zw338) (dk_111_0 (11, .getfield 24, 3) (List.mem_of_getElem? (i := 7) rfl)),
  List.forall_mem_cons.mpr ⟨sd_oLdR_n 111 14 0 0 rfl (dk_111_0 (14, .aload_n 0, 1) (List.mem_of_getElem? (i := 8) rfl)),
  List.forall_mem_cons.mpr ⟨sd_oGetI 111 15 7 7 76 RX6 TX6 23 rfl ⟨by decide, by decide⟩ rfl (by decide) rfl (fun w h => iw_111 w (uz_6 w h)) rfl (iw_111 _ zw359) (dk_111_0 (15, .getfield 76, 3) (List.mem_of_getElem? (i := 9) rfl)),
  List.forall_mem_cons.mpr ⟨sd_oLdI_n 111 18 2 2 rfl (dk_111_0 (18, .iload_n 2, 1) (List.mem_of_getElem? (i := 10) rfl)),
  List.forall_mem_cons.mpr ⟨sd_iast 111 19 (dk_111_0 (19, .iastore, 1) (List.mem_of_getElem? (i := 11) rfl)),
  List.forall_mem_cons.mpr ⟨sd_oLdR_n 111 20 0 0 rfl (dk_111_0 (20, .aload_n 0, 1) (List.mem_of_getElem? (i := 12) rfl)),
  List.forall_mem_cons.mpr ⟨sd_oGetR 111 21 7 10 27 RX6 TX6 23 rfl ⟨by decide, by decide⟩ rfl (by decide) rfl (fun w h => iw_111 w (uz_6 w h)) rfl (iw_111 _ zw339) (dk_111_0 (21, .getfield 27, 3) (List.mem_of_getElem? (i := 13) rfl)),
  List.forall_mem_cons.mpr ⟨sd_oLdR_n 111 24 0 0 rfl (dk_111_0 (24, .aload_n 0, 1) (List.mem_of_getElem? (i := 14) rfl)),
  List.forall_mem_cons.mpr ⟨sd_oGetI 111 25 7 7 76 RX6 TX6 23 rfl ⟨by decide, by decide⟩ rfl (by decide) rfl (fun w h => iw_111 w (uz_6 w h)) rfl (iw_111 _ zw359) (dk_111_0 (25, .getfield 76, 3) (List.mem_of_getElem? (i := 15) rfl)),
  List.forall_mem_cons.mpr ⟨sd_oLdI_n 111 28 3 3 rfl (dk_111_0 (28, .iload_n 3, 1) (List.mem_of_getElem? (i := 16) rfl)),
  List.forall_mem_cons.mpr ⟨sd_iast 111 29 (dk_111_0 (29, .iastore, 1) (List.mem_of_getElem? (i := 17) rfl)),
  List.forall_mem_cons.mpr ⟨sd_oLdR_n 111 30 0 0 rfl (dk_111_0 (30, .aload_n 0, 1) (List.mem_of_getElem? (i := 18) rfl)),
  List.forall_mem_cons.mpr ⟨sd_oGetR 111 31 7 11 30 RX6 TX6 23 rfl ⟨by decide, by decide⟩ rfl (by decide) rfl (fun w h => iw_111 w (uz_6 w h)) rfl (iw_111 _ zw340) (dk_111_0 (31, .getfield 30, 3) (List.mem_of_getElem? (i := 19) rfl)),
  List.forall_mem_cons.mpr ⟨sd_oLdR_n 111 34 0 0 rfl (dk_111_0 (34, .aload_n 0, 1) (List.mem_of_getElem? (i := 20) rfl)),
  List.forall_mem_cons.mpr ⟨sd_oGetI 111 35 7 7 76 RX6 TX6 23 rfl ⟨by decide, by decide⟩ rfl (by decide) rfl (fun w h => iw_111 w (uz_6 w h)) rfl (iw_111 _ zw359) (dk_111_0 (35, .getfield 76, 3) (List.mem_of_getElem? (i := 21) rfl)),
  List.forall_mem_cons.mpr ⟨sd_oLdI_n 111 38 3 3 rfl (dk_111_0 (38, .iload_n 3, 1) (List.mem_of_getElem? (i := 22) rfl)),
  List.forall_mem_cons.mpr ⟨sd_iconst 111 39 (-1) ⟨by decide, by decide⟩ (dk_111_0 (39, .iconst (-1), 1) (List.mem_of_getElem? (i := 23) rfl)),
  List.forall_mem_cons.mpr ⟨sd_icmp_ne 111 40 10 50 (by decide) (dk_111_0 (40, .if_icmp .ne 10, 3) (List.mem_of_getElem? (i := 24) rfl)),
  List.forall_mem_cons.mpr ⟨sd_oLdR_n 111 43 0 0 rfl (dk_111_0 (43, .aload_n 0, 1) (List.mem_of_getElem? (i := 25) rfl)),
  List.forall_mem_cons.mpr ⟨sd_oGetI 111 44 7 7 76 RX6 TX6 23 rfl ⟨by decide, by decide⟩ rfl (by decide) rfl (fun w h => iw_111 w (uz_6 w h)) rfl (iw_111 _ zw359) (dk_111_0 (44, .getfield 76, 3) (List.mem_of_getElem? (i := 26) rfl)),
  List.forall_mem_cons.mpr ⟨sd_goto 111 47 9 56 (by decide) (dk_111_0 (47, .goto 9, 3) (List.mem_of_getElem? (i := 27) rfl)),
  List.forall_mem_cons.mpr ⟨sd_oLdR_n 111 50 0 0 rfl (dk_111_0 (50, .aload_n 0, 1) (List.mem_of_getElem? (i := 28) rfl)),
  List.forall_mem_cons.mpr ⟨sd_oGetR 111 51 7 11 30 RX6 TX6 23 rfl ⟨by decide, by decide⟩ rfl (by decide) rfl (fun w h => iw_111 w (uz_6 w h)) rfl (iw_111 _ zw340) (dk_111_0 (51, .getfield 30, 3) (List.mem_of_getElem? (i := 29) rfl)),
  List.forall_mem_cons.mpr ⟨sd_oLdI_n 111 54 3 3 rfl (dk_111_0 (54, .iload_n 3, 1) (List.mem_of_getElem? (i := 30) rfl)),
  List.forall_mem_cons.mpr ⟨sd_iald 111 55 (dk_111_0 (55, .iaload, 1) (List.mem_of_getElem? (i := 31) rfl)),
  List.forall_mem_cons.mpr ⟨sd_iast 111 56 (dk_111_0 (56, .iastore, 1) (List.mem_of_getElem? (i := 32) rfl)),
  List.forall_mem_cons.mpr ⟨sd_oLdR_n 111 57 0 0 rfl (dk_111_0 (57, .aload_n 0, 1) (List.mem_of_getElem? (i := 33) rfl)),
  List.forall_mem_cons.mpr ⟨sd_dup 111 58 (dk_111_0 (58, .dup, 1) (List.mem_of_getElem? (i := 34) rfl)),
  List.forall_mem_cons.mpr ⟨sd_oGetI 111 59 7 7 76 RX6 TX6 23 rfl ⟨by decide, by decide⟩ rfl (by decide) rfl (fun w h => iw_111 w (uz_6 w h)) rfl (iw_111 _ zw359) (dk_111_0 (59, .getfield 76, 3) (List.mem_of_getElem? (i := 35) rfl)),
  List.forall_mem_cons.mpr ⟨sd_dup_x1 111 62 (dk_111_0 (62, .dup_x1, 1) (List.mem_of_getElem? (i := 36) rfl)),
  List.forall_mem_cons.mpr ⟨sd_iconst 111 63 1 ⟨by decide, by decide⟩ (dk_111_0 (63, .iconst 1, 1) (List.mem_of_getElem? (i := 37) rfl)),
  fun _ h => nomatch h⟩⟩⟩⟩⟩⟩⟩⟩⟩⟩⟩⟩⟩⟩⟩⟩⟩⟩⟩⟩⟩⟩⟩⟩⟩⟩⟩⟩⟩⟩⟩⟩⟩⟩⟩⟩⟩⟩
def tb_111_1 : List (Nat × Op1) := [(64, oAdd), (65, oPutI 7 7), (68, oRetI)]
theorem sm_111_1 : ∀ q ∈ tb_111_1, SM GwP MdP D A l 111 q.1 q.2 :=
  List.forall_mem_cons.mpr ⟨sd_iadd 111 64 (dk_111_0 (64, .iadd, 1) (List.mem_of_getElem? (i := 38) rfl)),
  List.forall_mem_cons.mpr ⟨sd_oPutI 111 65 7 7 76 RX6 TX6 23 rfl ⟨by decide, by decide⟩ rfl (by decide) rfl (fun w h => iw_111 w (uz_6 w h)) rfl tyX6 tyX6_ok nmX6 rfl rfl (iw_111 _ zw359) (dk_111_0 (65, .putfield 76, 3) (List.mem_of_getElem? (i := 39) rfl)),
  List.forall_mem_cons.mpr ⟨sd_iret 111 68 rfl (dk_111_1 (68, .ireturn, 1) (List.mem_of_getElem? (i := 0) rfl)),
  fun _ h => nomatch h⟩⟩⟩
def tb_111 : List (List (Nat × Op1)) := [tb_111_0, tb_111_1]
theorem sm_111 : ∀ t ∈ tb_111, ∀ q ∈ t, SM GwP MdP D A l 111 q.1 q.2 := List.forall_mem_cons.mpr ⟨sm_111_0, List.forall_mem_cons.mpr ⟨sm_111_1, fun _ h => nomatch h⟩⟩
-- 112: MarginaliaModel.note(IIIII)I
def dl_112_0 : List (Nat × Instr × Nat) := [(0, .aload_n 0, 1), (1, .iconst 0, 1), (2, .putfield 65, 3), (5, .aload_n 0, 1), (6, .iload_n 1, 1), (7, .invokevirtual 86, 3), (10, .ifCond .ne 9, 3), (13, .aload_n 0, 1), (14, .iconst 1, 1), (15, .invokevirtual 82, 3), (18, .ireturn, 1), (19, .iload_n 2, 1), (20, .ifCond .lt 39, 3), (23, .iload_n 3, 1), (24, .iload_n 2, 1), (25, .if_icmp .le 34, 3), (28, .iload_n 3, 1), (29, .aload_n 0, 1), (30, .invokevirtual 90, 3), (33, .arraylength, 1), (34, .if_icmp .gt 25, 3), (37, .iload 4, 2), (39, .iconst 0, 1), (40, .iconst 2, 1), (41, .invokestatic 72, 3), (44, .ifCond .eq 15, 3), (47, .iload 5, 2), (49, .iconst 0, 1), (50, .sipush 999, 3), (53, .invokestatic 72, 3), (56, .ifCond .ne 9, 3), (59, .aload_n 0, 1), (60, .iconst 2, 1), (61, .invokevirtual 82, 3), (64, .ireturn, 1), (65, .aload_n 0, 1), (66, .getfield 9, 3), (69, .iload_n 1, 1), (70, .iaload, 1), (71, .iconst 2, 1)]
theorem dk_112_0 : ∀ q ∈ dl_112_0, decode (mCod (MdP 112)) q.1 = .ok q.2 := by
  rw [show mCod (MdP 112) = cX6_note from rfl]
  decide +kernel
def dl_112_1 : List (Nat × Instr × Nat) := [(72, .if_icmp .lt 12, 3), (75, .aload_n 0, 1), (76, .getfield 76, 3), (79, .bipush 60, 2), (81, .if_icmp .ne 9, 3), (84, .aload_n 0, 1), (85, .iconst 3, 1), (86, .invokevirtual 82, 3), (89, .ireturn, 1), (90, .aload_n 0, 1), (91, .getfield 36, 3), (94, .aload_n 0, 1), (95, .getfield 76, 3), (98, .iload_n 2, 1), (99, .iastore, 1), (100, .aload_n 0, 1), (101, .getfield 39, 3), (104, .aload_n 0, 1), (105, .getfield 76, 3), (108, .iload_n 3, 1), (109, .iastore, 1), (110, .aload_n 0, 1), (111, .getfield 42, 3), (114, .aload_n 0, 1), (115, .getfield 76, 3), (118, .iload 4, 2), (120, .iastore, 1), (121, .aload_n 0, 1), (122, .getfield 45, 3), (125, .aload_n 0, 1), (126, .getfield 76, 3), (129, .iconst (-1), 1), (130, .iastore, 1), (131, .aload_n 0, 1), (132, .getfield 56, 3), (135, .aload_n 0, 1), (136, .getfield 76, 3), (139, .bipush 12, 2), (141, .iload_n 3, 1), (142, .iload_n 2, 1)]
theorem dk_112_1 : ∀ q ∈ dl_112_1, decode (mCod (MdP 112)) q.1 = .ok q.2 := by
  rw [show mCod (MdP 112) = cX6_note from rfl]
  decide +kernel
def dl_112_2 : List (Nat × Instr × Nat) := [(143, .isub, 1), (144, .invokestatic 103, 3), (147, .newarray .int, 2), (149, .aastore, 1), (150, .iconst 0, 1), (151, .istore 6, 2), (153, .iload 6, 2), (155, .aload_n 0, 1), (156, .getfield 56, 3), (159, .aload_n 0, 1), (160, .getfield 76, 3), (163, .aaload, 1), (164, .arraylength, 1), (165, .if_icmp .ge 35, 3), (168, .aload_n 0, 1), (169, .getfield 56, 3), (172, .aload_n 0, 1), (173, .getfield 76, 3), (176, .aaload, 1), (177, .iload 6, 2), (179, .aload_n 0, 1), (180, .getfield 13, 3), (183, .aload_n 0, 1), (184, .invokevirtual 90, 3), (187, .iload_n 2, 1), (188, .iload 6, 2), (190, .iadd, 1), (191, .iaload, 1), (192, .iaload, 1), (193, .iastore, 1), (194, .iinc 6 1, 3), (197, .goto (-44), 3), (200, .aload_n 0, 1), (201, .iload_n 1, 1), (202, .iload 5, 2), (204, .iconst (-1), 1), (205, .invokevirtual 130, 3), (208, .ireturn, 1)]
theorem dk_112_2 : ∀ q ∈ dl_112_2, decode (mCod (MdP 112)) q.1 = .ok q.2 := by
  rw [show mCod (MdP 112) = cX6_note from rfl]
  decide +kernel
def tb_112_0 : List (Nat × Op1) := [(0, oLdR 0 1), (1, oCI 0 1), (2, oPutI 7 0), (5, oLdR 0 1), (6, oLdI 1 1), (7, oCallV 95 1 2 7 []), (10, oZne 19), (13, oLdR 0 1), (14, oCI 1 1), (15, oCallV 91 1 2 7 []), (18, oRetI), (19, oLdI 2 1), (20, oZlt 59), (23, oLdI 3 1), (24, oLdI 2 1), (25, oCle 59), (28, oLdI 3 1), (29, oLdR 0 1), (30, oCallV 97 0 1 7 []), (33, oALen 10), (34, oCgt 59), (37, oLdI 4 2), (39, oCI 0 1), (40, oCI 2 1), (41, oCallS 94 3 3 []), (44, oZeq 59), (47, oLdI 5 2), (49, oCI 0 1), (50, oCI 999 3), (53, oCallS 94 3 3 []), (56, oZne 65), (59, oLdR 0 1), (60, oCI 2 1), (61, oCallV 91 1 2 7 [])]
theorem sm_112_0 : ∀ q ∈ tb_112_0, SM GwP MdP D A l 112 q.1 q.2 :=
  List.forall_mem_cons.mpr ⟨sd_oLdR_n 112 0 0 0 rfl (dk_112_0 (0, .aload_n 0, 1) (List.mem_of_getElem? (i := 0) rfl)),
  List.forall_mem_cons.mpr ⟨sd_iconst 112 1 0 ⟨by decide, by decide⟩ (dk_112_0 (1, .iconst 0, 1) (List.mem_of_getElem? (i := 1) rfl)),
  List.forall_mem_cons.mpr ⟨sd_oPutI 112 2 7 0 65 RX6 TX6 23 rfl ⟨by decide, by decide⟩ rfl (by decide) rfl (fun w h => iw_112 w (uz_6 w h)) rfl tyX6 tyX6_ok nmX6 rfl rfl (iw_112 _ zw353) (dk_112_0 (2, .putfield 65, 3) (List.mem_of_getElem? (i := 2) rfl)),
  List.forall_mem_cons.mpr ⟨sd_oLdR_n 112 5 0 0 rfl (dk_112_0 (5, .aload_n 0, 1) (List.mem_of_getElem? (i := 3) rfl)),
  List.forall_mem_cons.mpr ⟨sd_oLdI_n 112 6 1 1 rfl (dk_112_0 (6, .iload_n 1, 1) (List.mem_of_getElem? (i := 4) rfl)),
  List.forall_mem_cons.mpr ⟨sd_callV 112 7 95 1 2 86 7 [] (gdV hws_112 hws_95 zw366 zw367 zw368 zw358 zw365) hws_95 rfl (by decide +kernel) rfl rfl ⟨by decide +kernel, by decide +kernel, by decide +kernel⟩ ⟨by decide, by decide⟩ (catch_nil rfl) RX6 rfl TX6 23 rfl ⟨by decide, by decide⟩ (dk_112_0 (7, .invokevirtual 86, 3) (List.mem_of_getElem? (i := 5) rfl)),
  List.forall_mem_cons.mpr ⟨sd_if_ne 112 10 9 19 (by decide) (dk_112_0 (10, .ifCond .ne 9, 3) (List.mem_of_getElem? (i := 6) rfl)),
  List.forall_mem_cons.mpr ⟨sd_oLdR_n 112 13 0 0 rfl (dk_112_0 (13, .aload_n 0, 1) (List.mem_of_getElem? (i := 7) rfl)),
  List.forall_mem_cons.mpr ⟨sd_iconst 112 14 1 ⟨by decide, by decide⟩ (dk_112_0 (14, .iconst 1, 1) (List.mem_of_getElem? (i := 8) rfl)),
  List.forall_mem_cons.mpr ⟨sd_callV 112 15 91 1 2 82 7 [] (gdV hws_112 hws_91 zw362 zw363 zw364 zw358 zw361) hws_91 rfl (by decide +kernel) rfl rfl ⟨by decide +kernel, by decide +kernel, by decide +kernel⟩ ⟨by decide, by decide⟩ (catch_nil rfl) RX6 rfl TX6 23 rfl ⟨by decide, by decide⟩ (dk_112_0 (15, .invokevirtual 82, 3) (List.mem_of_getElem? (i := 9) rfl)),
  List.forall_mem_cons.mpr ⟨sd_iret 112 18 rfl (dk_112_0 (18, .ireturn, 1) (List.mem_of_getElem? (i := 10) rfl)),
  List.forall_mem_cons.mpr ⟨sd_oLdI_n 112 19 2 2 rfl (dk_112_0 (19, .iload_n 2, 1) (List.mem_of_getElem? (i := 11) rfl)),
  List.forall_mem_cons.mpr ⟨sd_if_lt 112 20 39 59 (by decide) (dk_112_0 (20, .ifCond .lt 39, 3) (List.mem_of_getElem? (i := 12) rfl)),
  List.forall_mem_cons.mpr ⟨sd_oLdI_n 112 23 3 3 rfl (dk_112_0 (23, .iload_n 3, 1) (List.mem_of_getElem? (i := 13) rfl)),
  List.forall_mem_cons.mpr ⟨sd_oLdI_n 112 24 2 2 rfl (dk_112_0 (24, .iload_n 2, 1) (List.mem_of_getElem? (i := 14) rfl)),
  List.forall_mem_cons.mpr ⟨sd_icmp_le 112 25 34 59 (by decide) (dk_112_0 (25, .if_icmp .le 34, 3) (List.mem_of_getElem? (i := 15) rfl)),
  List.forall_mem_cons.mpr ⟨sd_oLdI_n 112 28 3 3 rfl (dk_112_0 (28, .iload_n 3, 1) (List.mem_of_getElem? (i := 16) rfl)),
  List.forall_mem_cons.mpr ⟨sd_oLdR_n 112 29 0 0 rfl (dk_112_0 (29, .aload_n 0, 1) (List.mem_of_getElem? (i := 17) rfl)),
  List.forall_mem_cons.mpr ⟨sd_callV 112 30 97 0 1 90 7 [] (gdV hws_112 hws_97 zw370 zw371 zw372 zw358 zw369) hws_97 rfl (by decide +kernel) rfl rfl ⟨by decide +kernel, by decide +kernel, by decide +kernel⟩ ⟨by decide, by decide⟩ (catch_nil rfl) RX6 rfl TX6 23 rfl ⟨by decide, by decide⟩ (dk_112_0 (30, .invokevirtual 90, 3) (List.mem_of_getElem? (i := 18) rfl)),
  List.forall_mem_cons.mpr ⟨sd_alen 112 33 10 ⟨by decide, by decide⟩ (dk_112_0 (33, .arraylength, 1) (List.mem_of_getElem? (i := 19) rfl)),
  List.forall_mem_cons.mpr ⟨sd_icmp_gt 112 34 25 59 (by decide) (dk_112_0 (34, .if_icmp .gt 25, 3) (List.mem_of_getElem? (i := 20) rfl)),
  List.forall_mem_cons.mpr ⟨sd_oLdI 112 37 4 (dk_112_0 (37, .iload 4, 2) (List.mem_of_getElem? (i := 21) rfl)),
  List.forall_mem_cons.mpr ⟨sd_iconst 112 39 0 ⟨by decide, by decide⟩ (dk_112_0 (39, .iconst 0, 1) (List.mem_of_getElem? (i := 22) rfl)),
  List.forall_mem_cons.mpr ⟨sd_iconst 112 40 2 ⟨by decide, by decide⟩ (dk_112_0 (40, .iconst 2, 1) (List.mem_of_getElem? (i := 23) rfl)),
  List.forall_mem_cons.mpr ⟨sd_callS 112 41 94 3 3 72 [] (gdS hws_112 hws_94 zw356 zw357 zw358 zw355) hws_94 rfl (by decide +kernel) rfl rfl ⟨by decide +kernel, by decide +kernel, by decide +kernel⟩ ⟨by decide, by decide⟩ (catch_nil rfl) (dk_112_0 (41, .invokestatic 72, 3) (List.mem_of_getElem? (i := 24) rfl)),
  List.forall_mem_cons.mpr ⟨sd_if_eq 112 44 15 59 (by decide) (dk_112_0 (44, .ifCond .eq 15, 3) (List.mem_of_getElem? (i := 25) rfl)),
  List.forall_mem_cons.mpr ⟨sd_oLdI 112 47 5 (dk_112_0 (47, .iload 5, 2) (List.mem_of_getElem? (i := 26) rfl)),
  List.forall_mem_cons.mpr ⟨sd_iconst 112 49 0 ⟨by decide, by decide⟩ (dk_112_0 (49, .iconst 0, 1) (List.mem_of_getElem? (i := 27) rfl)),
  List.forall_mem_cons.mpr ⟨sd_sipush 112 50 999 ⟨by decide, by decide⟩ (by decide) (dk_112_0 (50, .sipush 999, 3) (List.mem_of_getElem? (i := 28) rfl)),
  List.forall_mem_cons.mpr ⟨sd_callS 112 53 94 3 3 72 [] (gdS hws_112 hws_94 zw356 zw357 zw358 zw355) hws_94 rfl (by decide +kernel) rfl rfl ⟨by decide +kernel, by decide +kernel, by decide +kernel⟩ ⟨by decide, by decide⟩ (catch_nil rfl) (dk_112_0 (53, .invokestatic 72, 3) (List.mem_of_getElem? (i := 29) rfl)),
  List.forall_mem_cons.mpr ⟨sd_if_ne 112 56 9 65 (by decide) (dk_112_0 (56, .ifCond .ne 9, 3) (List.mem_of_getElem? (i := 30) rfl)),
  List.forall_mem_cons.mpr ⟨sd_oLdR_n 112 59 0 0 rfl (dk_112_0 (59, .aload_n 0, 1) (List.mem_of_getElem? (i := 31) rfl)),
  List.forall_mem_cons.mpr ⟨sd_iconst 112 60 2 ⟨by decide, by decide⟩ (dk_112_0 (60, .iconst 2, 1) (List.mem_of_getElem? (i := 32) rfl)),
  List.forall_mem_cons.mpr ⟨sd_callV 112 61 91 1 2 82 7 [] (gdV hws_112 hws_91 zw362 zw363 zw364 zw358 zw361) hws_91 rfl (by decide +kernel) rfl rfl ⟨by decide +kernel, by decide +kernel, by decide +kernel⟩ ⟨by decide, by decide⟩ (catch_nil rfl) RX6 rfl TX6 23 rfl ⟨by decide, by decide⟩ (dk_112_0 (61, .invokevirtual 82, 3) (List.mem_of_getElem? (i := 33) rfl)),
  fun _ h => nomatch h⟩⟩⟩⟩⟩⟩⟩⟩⟩⟩⟩⟩⟩⟩⟩⟩⟩⟩⟩⟩⟩⟩⟩⟩⟩⟩⟩⟩⟩⟩⟩⟩⟩⟩
def tb_112_1 : List (Nat × Op1) := [(64, oRetI), (65, oLdR 0 1), (66, oGetR 7 2), (69, oLdI 1 1), (70, oALdI 10), (71, oCI 2 1), (72, oClt 84), (75, oLdR 0 1), (76, oGetI 7 7), (79, oCI 60 2), (81, oCne 90), (84, oLdR 0 1), (85, oCI 3 1), (86, oCallV 91 1 2 7 []), (89, oRetI), (90, oLdR 0 1), (91, oGetR 7 13), (94, oLdR 0 1), (95, oGetI 7 7), (98, oLdI 2 1), (99, oAStI), (100, oLdR 0 1), (101, oGetR 7 14), (104, oLdR 0 1), (105, oGetI 7 7), (108, oLdI 3 1), (109, oAStI), (110, oLdR 0 1), (111, oGetR 7 15), (114, oLdR 0 1), (115, oGetI 7 7), (118, oLdI 4 2), (120, oAStI), (121, oLdR 0 1), (122, oGetR 7 16), (125, oLdR 0 1), (126, oGetI 7 7)]
theorem sm_112_1 : ∀ q ∈ tb_112_1, SM GwP MdP D A l 112 q.1 q.2 :=
  List.forall_mem_cons.mpr ⟨sd_iret 112 64 rfl (dk_112_0 (64, .ireturn, 1) (List.mem_of_getElem? (i := 34) rfl)),
  List.forall_mem_cons.mpr ⟨sd_oLdR_n 112 65 0 0 rfl (dk_112_0 (65, .aload_n 0, 1) (List.mem_of_getElem? (i := 35) rfl)),
  List.forall_mem_cons.mpr ⟨sd_oGetR 112 66 7 2 9 RX6 TX6 23 rfl ⟨by decide, by decide⟩ rfl (by decide) rfl (fun w h => iw_112 w (uz_6 w h)) rfl (iw_112 _ zw333) (dk_112_0 (66, .getfield 9, 3) (List.mem_of_getElem? (i := 36) rfl)),
  List.forall_mem_cons.mpr ⟨sd_oLdI_n 112 69 1 1 rfl (dk_112_0 (69, .iload_n 1, 1) (List.mem_of_getElem? (i := 37) rfl)),
  List.forall_mem_cons.mpr ⟨sd_iald 112 70 (dk_112_0 (70, .iaload, 1) (List.mem_of_getElem? (i := 38) rfl)),
  List.forall_mem_cons.mpr ⟨sd_iconst 112 71 2 ⟨by decide, by decide⟩ (dk_112_0 (71, .iconst 2, 1) (List.mem_of_getElem? (i := 39) rfl)),
  List.forall_mem_cons.mpr ⟨sd_icmp_lt 112 72 12 84 (by decide) (dk_112_1 (72, .if_icmp .lt 12, 3) (List.mem_of_getElem? (i := 0) rfl)),
  List.forall_mem_cons.mpr ⟨sd_oLdR_n 112 75 0 0 rfl (dk_112_1 (75, .aload_n 0, 1) (List.mem_of_getElem? (i := 1) rfl)),
  List.forall_mem_cons.mpr ⟨sd_oGetI 112 76 7 7 76 RX6 TX6 23 rfl ⟨by decide, by decide⟩ rfl (by decide) rfl (fun w h => iw_112 w (uz_6 w h)) rfl (iw_112 _ zw359) (dk_112_1 (76, .getfield 76, 3) (List.mem_of_getElem? (i := 2) rfl)),
  List.forall_mem_cons.mpr ⟨sd_bipush 112 79 60 ⟨by decide, by decide⟩ (by decide) (dk_112_1 (79, .bipush 60, 2) (List.mem_of_getElem? (i := 3) rfl)),
  List.forall_mem_cons.mpr ⟨sd_icmp_ne 112 81 9 90 (by decide) (dk_112_1 (81, .if_icmp .ne 9, 3) (List.mem_of_getElem? (i := 4) rfl)),
  List.forall_mem_cons.mpr ⟨sd_oLdR_n 112 84 0 0 rfl (dk_112_1 (84, .aload_n 0, 1) (List.mem_of_getElem? (i := 5) rfl)),
  List.forall_mem_cons.mpr ⟨sd_iconst 112 85 3 ⟨by decide, by decide⟩ (dk_112_1 (85, .iconst 3, 1) (List.mem_of_getElem? (i := 6) rfl)),
  List.forall_mem_cons.mpr ⟨sd_callV 112 86 91 1 2 82 7 [] (gdV hws_112 hws_91 zw362 zw363 zw364 zw358 zw361) hws_91 rfl (by decide +kernel) rfl rfl ⟨by decide +kernel, by decide +kernel, by decide +kernel⟩ ⟨by decide, by decide⟩ (catch_nil rfl) RX6 rfl TX6 23 rfl ⟨by decide, by decide⟩ (dk_112_1 (86, .invokevirtual 82, 3) (List.mem_of_getElem? (i := 7) rfl)),
  List.forall_mem_cons.mpr ⟨sd_iret 112 89 rfl (dk_112_1 (89, .ireturn, 1) (List.mem_of_getElem? (i := 8) rfl)),
  List.forall_mem_cons.mpr ⟨sd_oLdR_n 112 90 0 0 rfl (dk_112_1 (90, .aload_n 0, 1) (List.mem_of_getElem? (i := 9) rfl)),
  List.forall_mem_cons.mpr ⟨sd_oGetR 112 91 7 13 36 RX6 TX6 23 rfl ⟨by decide, by decide⟩ rfl (by decide) rfl (fun w h => iw_112 w (uz_6 w h)) rfl (iw_112 _ zw342) (dk_112_1 (91, .getfield 36, 3) (List.mem_of_getElem? (i := 10) rfl)),
  List.forall_mem_cons.mpr ⟨sd_oLdR_n 112 94 0 0 rfl (dk_112_1 (94, .aload_n 0, 1) (List.mem_of_getElem? (i := 11) rfl)),
  List.forall_mem_cons.mpr ⟨sd_oGetI 112 95 7 7 76 RX6 TX6 23 rfl ⟨by decide, by decide⟩ rfl (by decide) rfl (fun w h => iw_112 w (uz_6 w h)) rfl (iw_112 _ zw359) (dk_112_1 (95, .getfield 76, 3) (List.mem_of_getElem? (i := 12) rfl)),
  List.forall_mem_cons.mpr ⟨sd_oLdI_n 112 98 2 2 rfl (dk_112_1 (98, .iload_n 2, 1) (List.mem_of_getElem? (i := 13) rfl)),
  List.forall_mem_cons.mpr ⟨sd_iast 112 99 (dk_112_1 (99, .iastore, 1) (List.mem_of_getElem? (i := 14) rfl)),
  List.forall_mem_cons.mpr ⟨sd_oLdR_n 112 100 0 0 rfl (dk_112_1 (100, .aload_n 0, 1) (List.mem_of_getElem? (i := 15) rfl)),
  List.forall_mem_cons.mpr ⟨sd_oGetR 112 101 7 14 39 RX6 TX6 23 rfl ⟨by decide, by decide⟩ rfl (by decide) rfl (fun w h => iw_112 w (uz_6 w h)) rfl (iw_112 _ zw343) (dk_112_1 (101, .getfield 39, 3) (List.mem_of_getElem? (i := 16) rfl)),
  List.forall_mem_cons.mpr ⟨sd_oLdR_n 112 104 0 0 rfl (dk_112_1 (104, .aload_n 0, 1) (List.mem_of_getElem? (i := 17) rfl)),
  List.forall_mem_cons.mpr ⟨sd_oGetI 112 105 7 7 76 RX6 TX6 23 rfl ⟨by decide, by decide⟩ rfl (by decide) rfl (fun w h => iw_112 w (uz_6 w h)) rfl (iw_112 _ zw359) (dk_112_1 (105, .getfield 76, 3) (List.mem_of_getElem? (i := 18) rfl)),
  List.forall_mem_cons.mpr ⟨sd_oLdI_n 112 108 3 3 rfl (dk_112_1 (108, .iload_n 3, 1) (List.mem_of_getElem? (i := 19) rfl)),
  List.forall_mem_cons.mpr ⟨sd_iast 112 109 (dk_112_1 (109, .iastore, 1) (List.mem_of_getElem? (i := 20) rfl)),
  List.forall_mem_cons.mpr ⟨sd_oLdR_n 112 110 0 0 rfl (dk_112_1 (110, .aload_n 0, 1) (List.mem_of_getElem? (i := 21) rfl)),
  List.forall_mem_cons.mpr ⟨sd_oGetR 112 111 7 15 42 RX6 TX6 23 rfl ⟨by decide, by decide⟩ rfl (by decide) rfl (fun w h => iw_112 w (uz_6 w h)) rfl (iw_112 _ zw344) (dk_112_1 (111, .getfield 42, 3) (List.mem_of_getElem? (i := 22) rfl)),
  List.forall_mem_cons.mpr ⟨sd_oLdR_n 112 114 0 0 rfl (dk_112_1 (114, .aload_n 0, 1) (List.mem_of_getElem? (i := 23) rfl)),
  List.forall_mem_cons.mpr ⟨sd_oGetI 112 115 7 7 76 RX6 TX6 23 rfl ⟨by decide, by decide⟩ rfl (by decide) rfl (fun w h => iw_112 w (uz_6 w h)) rfl (iw_112 _ zw359) (dk_112_1 (115, .getfield 76, 3) (List.mem_of_getElem? (i := 24) rfl)),
  List.forall_mem_cons.mpr ⟨sd_oLdI 112 118 4 (dk_112_1 (118, .iload 4, 2) (List.mem_of_getElem? (i := 25) rfl)),
  List.forall_mem_cons.mpr ⟨sd_iast 112 120 (dk_112_1 (120, .iastore, 1) (List.mem_of_getElem? (i := 26) rfl)),
  List.forall_mem_cons.mpr ⟨sd_oLdR_n 112 121 0 0 rfl (dk_112_1 (121, .aload_n 0, 1) (List.mem_of_getElem? (i := 27) rfl)),
  List.forall_mem_cons.mpr ⟨sd_oGetR 112 122 7 16 45 RX6 TX6 23 rfl ⟨by decide, by decide⟩ rfl (by decide) rfl (fun w h => iw_112 w (uz_6 w h)) rfl (iw_112 _ zw345) (dk_112_1 (122, .getfield 45, 3) (List.mem_of_getElem? (i := 28) rfl)),
  List.forall_mem_cons.mpr ⟨sd_oLdR_n 112 125 0 0 rfl (dk_112_1 (125, .aload_n 0, 1) (List.mem_of_getElem? (i := 29) rfl)),
  List.forall_mem_cons.mpr ⟨sd_oGetI 112 126 7 7 76 RX6 TX6 23 rfl ⟨by decide, by decide⟩ rfl (by decide) rfl (fun w h => iw_112 w (uz_6 w h)) rfl (iw_112 _ zw359) (dk_112_1 (126, .getfield 76, 3) (List.mem_of_getElem? (i := 30) rfl)),
  fun _ h => nomatch h⟩⟩⟩⟩⟩⟩⟩⟩⟩⟩⟩⟩⟩⟩⟩⟩⟩⟩⟩⟩⟩⟩⟩⟩⟩⟩⟩⟩⟩⟩⟩⟩⟩⟩⟩⟩⟩
def tb_112_2 : List (Nat × Op1) := [(129, oCI (-1) 1), (130, oAStI), (131, oLdR 0 1), (132, oGetR 7 19), (135, oLdR 0 1), (136, oGetI 7 7), (139, oCI 12 2), (141, oLdI 3 1), (142, oLdI 2 1), (143, oSub), (144, oMin), (147, oNewA 10 2), (149, oAStR 14 10), (150, oCI 0 1), (151, oStI 6 2), (153, oLdI 6 2), (155, oLdR 0 1), (156, oGetR 7 19), (159, oLdR 0 1), (160, oGetI 7 7), (163, oALdR 14), (164, oALen 10), (165, oCge 200), (168, oLdR 0 1), (169, oGetR 7 19), (172, oLdR 0 1), (173, oGetI 7 7), (176, oALdR 14), (177, oLdI 6 2), (179, oLdR 0 1), (180, oGetR 7 4), (183, oLdR 0 1), (184, oCallV 97 0 1 7 []), (187, oLdI 2 1), (188, oLdI 6 2), (190, oAdd), (191, oALdI 10)]
theorem sm_112_2 : ∀ q ∈ tb_112_2, SM GwP MdP D A l 112 q.1 q.2 :=
  List.forall_mem_cons.mpr ⟨sd_iconst 112 129 (-1) ⟨by decide, by decide⟩ (dk_112_1 (129, .iconst (-1), 1) (List.mem_of_getElem? (i := 31) rfl)),
  List.forall_mem_cons.mpr ⟨sd_iast 112 130 (dk_112_1 (130, .iastore, 1) (List.mem_of_getElem? (i := 32) rfl)),
  List.forall_mem_cons.mpr ⟨sd_oLdR_n 112 131 0 0 rfl (dk_112_1 (131, .aload_n 0, 1) (List.mem_of_getElem? (i := 33) rfl)),
  List.forall_mem_cons.mpr ⟨sd_oGetR 112 132 7 19 56 RX6 TX6 23 rfl ⟨by decide, by decide⟩ rfl (by decide) rfl (fun w h => iw_112 w (uz_6 w h)) rfl (iw_112 _ zw350) (dk_112_1 (132, .getfield 56, 3) (List.mem_of_getElem? (i := 34) rfl)),
  List.forall_mem_cons.mpr ⟨sd_oLdR_n 112 135 0 0 rfl (dk_112_1 (135, .aload_n 0, 1) (List.mem_of_getElem? (i := 35) rfl)),
  List.forall_mem_cons.mpr ⟨sd_oGetI 112 136 7 7 76 RX6 TX6 23 rfl ⟨by decide, by decide⟩ rfl (by decide) rfl (fun w h => iw_112 w (uz_6 w h)) rfl (iw_112 _ zw359) (dk_112_1 (136, .getfield 76, 3) (List.mem_of_getElem? (i := 36) rfl)),
  List.forall_mem_cons.mpr ⟨sd_bipush 112 139 12 ⟨by decide, by decide⟩ (by decide) (dk_112_1 (139, .bipush 12, 2) (List.mem_of_getElem? (i := 37) rfl)),
  List.forall_mem_cons.mpr ⟨sd_oLdI_n 112 141 3 3 rfl (dk_112_1 (141, .iload_n 3, 1) (List.mem_of_getElem? (i := 38) rfl)),
  List.forall_mem_cons.mpr ⟨sd_oLdI_n 112 142 2 2 rfl (dk_112_1 (142, .iload_n 2, 1) (List.mem_of_getElem? (i := 39) rfl)),
  List.forall_mem_cons.mpr ⟨sd_isub 112 143 (dk_112_2 (143, .isub, 1) (List.mem_of_getElem? (i := 0) rfl)),
  List.forall_mem_cons.mpr ⟨sd_min 112 144 103 (iw_112 _ zw375) (iw_112 _ zw14) (iw_112 _ zw15) (iw_112 _ zw16) (by decide) (by decide) (dk_112_2 (144, .invokestatic 103, 3) (List.mem_of_getElem? (i := 1) rfl)),
  List.forall_mem_cons.mpr ⟨sd_newA 112 147 10 .int (Or.inl ⟨rfl, rfl⟩) (iw_112 _ zw22) (dk_112_2 (147, .newarray .int, 2) (List.mem_of_getElem? (i := 2) rfl)),
  List.forall_mem_cons.mpr ⟨sd_aastA 112 149 (dk_112_2 (149, .aastore, 1) (List.mem_of_getElem? (i := 3) rfl)),
  List.forall_mem_cons.mpr ⟨sd_iconst 112 150 0 ⟨by decide, by decide⟩ (dk_112_2 (150, .iconst 0, 1) (List.mem_of_getElem? (i := 4) rfl)),
  List.forall_mem_cons.mpr ⟨sd_oStI 112 151 6 (by decide) (dk_112_2 (151, .istore 6, 2) (List.mem_of_getElem? (i := 5) rfl)),
  List.forall_mem_cons.mpr ⟨sd_oLdI 112 153 6 (dk_112_2 (153, .iload 6, 2) (List.mem_of_getElem? (i := 6) rfl)),
  List.forall_mem_cons.mpr ⟨sd_oLdR_n 112 155 0 0 rfl (dk_112_2 (155, .aload_n 0, 1) (List.mem_of_getElem? (i := 7) rfl)),
  List.forall_mem_cons.mpr ⟨sd_oGetR 112 156 7 19 56 RX6 TX6 23 rfl ⟨by decide, by decide⟩ rfl (by decide) rfl (fun w h => iw_112 w (uz_6 w h)) rfl (iw_112 _ zw350) (dk_112_2 (156, .getfield 56, 3) (List.mem_of_getElem? (i := 8) rfl)),
  List.forall_mem_cons.mpr ⟨sd_oLdR_n 112 159 0 0 rfl (dk_112_2 (159, .aload_n 0, 1) (List.mem_of_getElem? (i := 9) rfl)),
  List.forall_mem_cons.mpr ⟨sd_oGetI 112 160 7 7 76 RX6 TX6 23 rfl ⟨by decide, by decide⟩ rfl (by decide) rfl (fun w h => iw_112 w (uz_6 w h)) rfl (iw_112 _ zw359) (dk_112_2 (160, .getfield 76, 3) (List.mem_of_getElem? (i := 10) rfl)),
  List.forall_mem_cons.mpr ⟨sd_aaldA 112 163 (dk_112_2 (163, .aaload, 1) (List.mem_of_getElem? (i := 11) rfl)),
  List.forall_mem_cons.mpr ⟨sd_alen 112 164 10 ⟨by decide, by decide⟩ (dk_112_2 (164, .arraylength, 1) (List.mem_of_getElem? (i := 12) rfl)),
  List.forall_mem_cons.mpr ⟨sd_icmp_ge 112 165 35 200 (by decide) (dk_112_2 (165, .if_icmp .ge 35, 3) (List.mem_of_getElem? (i := 13) rfl)),
  List.forall_mem_cons.mpr ⟨sd_oLdR_n 112 168 0 0 rfl (dk_112_2 (168, .aload_n 0, 1) (List.mem_of_getElem? (i := 14) rfl)),
  List.forall_mem_cons.mpr ⟨sd_oGetR 112 169 7 19 56 RX6 TX6 23 rfl ⟨by decide, by decide⟩ rfl (by decide) rfl (fun w h => iw_112 w (uz_6 w h)) rfl (iw_112 _ zw350) (dk_112_2 (169, .getfield 56, 3) (List.mem_of_getElem? (i := 15) rfl)),
  List.forall_mem_cons.mpr ⟨sd_oLdR_n 112 172 0 0 rfl (dk_112_2 (172, .aload_n 0, 1) (List.mem_of_getElem? (i := 16) rfl)),
  List.forall_mem_cons.mpr ⟨sd_oGetI 112 173 7 7 76 RX6 TX6 23 rfl ⟨by decide, by decide⟩ rfl (by decide) rfl (fun w h => iw_112 w (uz_6 w h)) rfl (iw_112 _ zw359) (dk_112_2 (173, .getfield 76, 3) (List.mem_of_getElem? (i := 17) rfl)),
  List.forall_mem_cons.mpr ⟨sd_aaldA 112 176 (dk_112_2 (176, .aaload, 1) (List.mem_of_getElem? (i := 18) rfl)),
  List.forall_mem_cons.mpr ⟨sd_oLdI 112 177 6 (dk_112_2 (177, .iload 6, 2) (List.mem_of_getElem? (i := 19) rfl)),
  List.forall_mem_cons.mpr ⟨sd_oLdR_n 112 179 0 0 rfl (dk_112_2 (179, .aload_n 0, 1) (List.mem_of_getElem? (i := 20) rfl)),
  List.forall_mem_cons.mpr ⟨sd_oGetR 112 180 7 4 13 RX6 TX6 23 rfl ⟨by decide, by decide⟩ rfl (by decide) rfl (fun w h => iw_112 w (uz_6 w h)) rfl (iw_112 _ zw334) (dk_112_2 (180, .getfield 13, 3) (List.mem_of_getElem? (i := 21) rfl)),
  List.forall_mem_cons.mpr ⟨sd_oLdR_n 112 183 0 0 rfl (dk_112_2 (183, .aload_n 0, 1) (List.mem_of_getElem? (i := 22) rfl)),
  List.forall_mem_cons.mpr ⟨sd_callV 112 184 97 0 1 90 7 [] (gdV hws_112 hws_97 zw370 zw371 zw372 zw358 zw369) hws_97 rfl (by decide +kernel) rfl rfl ⟨by decide +kernel, by decide +kernel, by decide +kernel⟩ ⟨by decide, by decide⟩ (catch_nil rfl) RX6 rfl TX6 23 rfl ⟨by decide, by decide⟩ (dk_112_2 (184, .invokevirtual 90, 3) (List.mem_of_getElem? (i := 23) rfl)),
  List.forall_mem_cons.mpr ⟨sd_oLdI_n 112 187 2 2 rfl (dk_112_2 (187, .iload_n 2, 1) (List.mem_of_getElem? (i := 24) rfl)),
  List.forall_mem_cons.mpr ⟨sd_oLdI 112 188 6 (dk_112_2 (188, .iload 6, 2) (List.mem_of_getElem? (i := 25) rfl)),
  List.forall_mem_cons.mpr ⟨sd_iadd 112 190 (dk_112_2 (190, .iadd, 1) (List.mem_of_getElem? (i := 26) rfl)),
  List.forall_mem_cons.mpr ⟨sd_iald 112 191 (dk_112_2 (191, .iaload, 1) (List.mem_of_getElem? (i := 27) rfl)),
  fun _ h => nomatch h⟩⟩⟩⟩⟩⟩⟩⟩⟩⟩⟩⟩⟩⟩⟩⟩⟩⟩⟩⟩⟩⟩⟩⟩⟩⟩⟩⟩⟩⟩⟩⟩⟩⟩⟩⟩⟩
def tb_112_3 : List (Nat × Op1) := [(192, oALdI 10), (193, oAStI), (194, oInc 6 1), (197, oGoto 153), (200, oLdR 0 1), (201, oLdI 1 1), (202, oLdI 5 2), (204, oCI (-1) 1), (205, oCallV 111 3 4 7 []), (208, oRetI)]
theorem sm_112_3 : ∀ q ∈ tb_112_3, SM GwP MdP D A l 112 q.1 q.2 :=
  List.forall_mem_cons.mpr ⟨sd_iald 112 192 (dk_112_2 (192, .iaload, 1) (List.mem_of_getElem? (i := 28) rfl)),
  List.forall_mem_cons.mpr ⟨sd_iast 112 193 (dk_112_2 (193, .iastore, 1) (List.mem_of_getElem? (i := 29) rfl)),
  List.forall_mem_cons.mpr ⟨sd_iinc 112 194 6 1 (by decide) (dk_112_2 (194, .iinc 6 1, 3) (List.mem_of_getElem? (i := 30) rfl)),
  List.forall_mem_cons.mpr ⟨sd_goto 112 197 (-44) 153 (by decide) (dk_112_2 (197, .goto (-44), 3) (List.mem_of_getElem? (i := 31) rfl)),
  List.forall_mem_cons.mpr ⟨sd_oLdR_n 112 200 0 0 rfl (dk_112_2 (200, .aload_n 0, 1) (List.mem_of_getElem? (i := 32) rfl)),
  List.forall_mem_cons.mpr ⟨sd_oLdI_n 112 201 1 1 rfl (dk_112_2 (201, .iload_n 1, 1) (List.mem_of_getElem? (i := 33) rfl)),
  List.forall_mem_cons.mpr ⟨sd_oLdI 112 202 5 (dk_112_2 (202, .iload 5, 2) (List.mem_of_getElem? (i := 34) rfl)),
  List.forall_mem_cons.mpr ⟨sd_iconst 112 204 (-1) ⟨by decide, by decide⟩ (dk_112_2 (204, .iconst (-1), 1) (List.mem_of_getElem? (i := 35) rfl)),
  List.forall_mem_cons.mpr ⟨sd_callV 112 205 111 3 4 130 7 [] (gdV hws_112 hws_111 zw398 zw399 zw400 zw358 zw397) hws_111 rfl (by decide +kernel) rfl rfl ⟨by decide +kernel, by decide +kernel, by decide +kernel⟩ ⟨by decide, by decide⟩ (catch_nil rfl) RX6 rfl TX6 23 rfl ⟨by decide, by decide⟩ (dk_112_2 (205, .invokevirtual 130, 3) (List.mem_of_getElem? (i := 36) rfl)),
  List.forall_mem_cons.mpr ⟨sd_iret 112 208 rfl (dk_112_2 (208, .ireturn, 1) (List.mem_of_getElem? (i := 37) rfl)),
  fun _ h => nomatch h⟩⟩⟩⟩⟩⟩⟩⟩⟩⟩
def tb_112 : List (List (Nat × Op1)) := [tb_112_0, tb_112_1, tb_112_2, tb_112_3]
theorem sm_112 : ∀ t ∈ tb_112, ∀ q ∈ t, SM GwP MdP D A l 112 q.1 q.2 := List.forall_mem_cons.mpr ⟨sm_112_0, List.forall_mem_cons.mpr ⟨sm_112_1, List.forall_mem_cons.mpr ⟨sm_112_2, List.forall_mem_cons.mpr ⟨sm_112_3, fun _ h => nomatch h⟩⟩⟩⟩
-- 113: MarginaliaModel.reply(III)I
def dl_113_0 : List (Nat × Instr × Nat) := [(0, .aload_n 0, 1), (1, .iconst 0, 1), (2, .putfield 65, 3), (5, .aload_n 0, 1), (6, .iload_n 1, 1), (7, .invokevirtual 86, 3), (10, .ifCond .eq 11, 3), (13, .aload_n 0, 1), (14, .iload_n 2, 1), (15, .invokevirtual 134, 3), (18, .ifCond .ne 9, 3), (21, .aload_n 0, 1), (22, .iconst 1, 1), (23, .invokevirtual 82, 3), (26, .ireturn, 1), (27, .iload_n 3, 1), (28, .iconst 0, 1), (29, .sipush 999, 3), (32, .invokestatic 72, 3), (35, .ifCond .ne 9, 3), (38, .aload_n 0, 1), (39, .iconst 2, 1), (40, .invokevirtual 82, 3), (43, .ireturn, 1), (44, .aload_n 0, 1), (45, .iload_n 1, 1), (46, .iload_n 2, 1), (47, .iconst 2, 1), (48, .invokevirtual 137, 3), (51, .ifCond .eq 22, 3), (54, .aload_n 0, 1), (55, .getfield 33, 3), (58, .iload_n 2, 1), (59, .iaload, 1), (60, .iconst 1, 1), (61, .if_icmp .eq 12, 3), (64, .aload_n 0, 1), (65, .getfield 76, 3), (68, .bipush 60, 2), (70, .if_icmp .ne 9, 3)]
theorem dk_113_0 : ∀ q ∈ dl_113_0, decode (mCod (MdP 113)) q.1 = .ok q.2 := by
  rw [show mCod (MdP 113) = cX6_reply from rfl]
  decide +kernel
def dl_113_1 : List (Nat × Instr × Nat) := [(73, .aload_n 0, 1), (74, .iconst 3, 1), (75, .invokevirtual 82, 3), (78, .ireturn, 1), (79, .aload_n 0, 1), (80, .getfield 51, 3), (83, .aload_n 0, 1), (84, .getfield 30, 3), (87, .iload_n 2, 1), (88, .iaload, 1), (89, .iconst 0, 1), (90, .bastore, 1), (91, .aload_n 0, 1), (92, .iload_n 1, 1), (93, .iload_n 3, 1), (94, .iload_n 2, 1), (95, .invokevirtual 130, 3), (98, .ireturn, 1)]
theorem dk_113_1 : ∀ q ∈ dl_113_1, decode (mCod (MdP 113)) q.1 = .ok q.2 := by
  rw [show mCod (MdP 113) = cX6_reply from rfl]
  decide +kernel
def tb_113_0 : List (Nat × Op1) := [(0, oLdR 0 1), (1, oCI 0 1), (2, oPutI 7 0), (5, oLdR 0 1), (6, oLdI 1 1), (7, oCallV 95 1 2 7 []), (10, oZeq 21), (13, oLdR 0 1), (14, oLdI 2 1), (15, oCallV 96 1 2 7 []), (18, oZne 27), (21, oLdR 0 1), (22, oCI 1 1), (23, oCallV 91 1 2 7 []), (26, oRetI), (27, oLdI 3 1), (28, oCI 0 1), (29, oCI 999 3), (32, oCallS 94 3 3 []), (35, oZne 44), (38, oLdR 0 1), (39, oCI 2 1), (40, oCallV 91 1 2 7 []), (43, oRetI), (44, oLdR 0 1), (45, oLdI 1 1), (46, oLdI 2 1), (47, oCI 2 1), (48, oCallV 110 3 4 7 []), (51, oZeq 73), (54, oLdR 0 1), (55, oGetR 7 12), (58, oLdI 2 1), (59, oALdI 10), (60, oCI 1 1), (61, oCeq 73)]
theorem sm_113_0 : ∀ q ∈ tb_113_0, SM GwP MdP D A l 113 q.1 q.2 :=
  List.forall_mem_cons.mpr ⟨sd_oLdR_n 113 0 0 0 rfl (dk_113_0 (0, .aload_n 0, 1) (List.mem_of_getElem? (i := 0) rfl)),
  List.forall_mem_cons.mpr ⟨sd_iconst 113 1 0 ⟨by decide, by decide⟩ (dk_113_0 (1, .iconst 0, 1) (List.mem_of_getElem? (i := 1) rfl)),
  List.forall_mem_cons.mpr ⟨sd_oPutI 113 2 7 0 65 RX6 TX6 23 rfl ⟨by decide, by decide⟩ rfl (by decide) rfl (fun w h => iw_113 w (uz_6 w h)) rfl tyX6 tyX6_ok nmX6 rfl rfl (iw_113 _ zw353) (dk_113_0 (2, .putfield 65, 3) (List.mem_of_getElem? (i := 2) rfl)),
  List.forall_mem_cons.mpr ⟨sd_oLdR_n 113 5 0 0 rfl (dk_113_0 (5, .aload_n 0, 1) (List.mem_of_getElem? (i := 3) rfl)),
  List.forall_mem_cons.mpr ⟨sd_oLdI_n 113 6 1 1 rfl (dk_113_0 (6, .iload_n 1, 1) (List.mem_of_getElem? (i := 4) rfl)),
  List.forall_mem_cons.mpr ⟨sd_callV 113 7 95 1 2 86 7 [] (gdV hws_113 hws_95 zw366 zw367 zw368 zw358 zw365) hws_95 rfl (by decide +kernel) rfl rfl ⟨by decide +kernel, by decide +kernel, by decide +kernel⟩ ⟨by decide, by decide⟩ (catch_nil rfl) RX6 rfl TX6 23 rfl ⟨by decide, by decide⟩ (dk_113_0 (7, .invokevirtual 86, 3) (List.mem_of_getElem? (i := 5) rfl)),
  List.forall_mem_cons.mpr ⟨sd_if_eq 113 10 11 21 (by decide) (dk_113_0 (10, .ifCond .eq 11, 3) (List.mem_of_getElem? (i := 6) rfl)),
  List.forall_mem_cons.mpr ⟨sd_oLdR_n 113 13 0 0 rfl (dk_113_0 (13, .aload_n 0, 1) (List.mem_of_getElem? (i := 7) rfl)),
  List.forall_mem_cons.mpr ⟨sd_oLdI_n 113 14 2 2 rfl (dk_113_0 (14, .iload_n 2, 1) (List.mem_of_getElem? (i := 8) rfl)),
  List.forall_mem_cons.mpr ⟨sd_callV 113 15 96 1 2 134 7 [] (gdV hws_113 hws_96 zw402 zw403 zw404 zw358 zw401) hws_96 rfl (by decide +kernel) rfl rfl ⟨by decide +kernel, by decide +kernel, by decide +kernel⟩ ⟨by decide, by decide⟩ (catch_nil rfl) RX6 rfl TX6 23 rfl ⟨by decide, by decide⟩ (dk_113_0 (15, .invokevirtual 134, 3) (List.mem_of_getElem? (i := 9) rfl)),
  List.forall_mem_cons.mpr ⟨sd_if_ne 113 18 9 27 (by decide) (dk_113_0 (18, .ifCond .ne 9, 3) (List.mem_of_getElem? (i := 10) rfl)),
  List.forall_mem_cons.mpr ⟨sd_oLdR_n 113 21 0 0 rfl (dk_113_0 (21, .aload_n 0, 1) (List.mem_of_getElem? (i := 11) rfl)),
  List.forall_mem_cons.mpr ⟨sd_iconst 113 22 1 ⟨by decide, by decide⟩ (dk_113_0 (22, .iconst 1, 1) (List.mem_of_getElem? (i := 12) rfl)),
  List.forall_mem_cons.mpr ⟨sd_callV 113 23 91 1 2 82 7 [] (gdV hws_113 hws_91 zw362 zw363 zw364 zw358 zw361) hws_91 rfl (by decide +kernel) rfl rfl ⟨by decide +kernel, by decide +kernel, by decide +kernel⟩ ⟨by decide, by decide⟩ (catch_nil rfl) RX6 rfl TX6 23 rfl ⟨by decide, by decide⟩ (dk_113_0 (23, .invokevirtual 82, 3) (List.mem_of_getElem? (i := 13) rfl)),
  List.forall_mem_cons.mpr ⟨sd_iret 113 26 rfl (dk_113_0 (26, .ireturn, 1) (List.mem_of_getElem? (i := 14) rfl)),
  List.forall_mem_cons.mpr ⟨sd_oLdI_n 113 27 3 3 rfl (dk_113_0 (27, .iload_n 3, 1) (List.mem_of_getElem? (i := 15) rfl)),
  List.forall_mem_cons.mpr ⟨sd_iconst 113 28 0 ⟨by decide, by decide⟩ (dk_113_0 (28, .iconst 0, 1) (List.mem_of_getElem? (i := 16) rfl)),
  List.forall_mem_cons.mpr ⟨sd_sipush 113 29 999 ⟨by decide, by decide⟩ (by decide) (dk_113_0 (29, .sipush 999, 3) (List.mem_of_getElem? (i := 17) rfl)),
  List.forall_mem_cons.mpr ⟨sd_callS 113 32 94 3 3 72 [] (gdS hws_113 hws_94 zw356 zw357 zw358 zw355) hws_94 rfl (by decide +kernel) rfl rfl ⟨by decide +kernel, by decide +kernel, by decide +kernel⟩ ⟨by decide, by decide⟩ (catch_nil rfl) (dk_113_0 (32, .invokestatic 72, 3) (List.mem_of_getElem? (i := 18) rfl)),
  List.forall_mem_cons.mpr ⟨sd_if_ne 113 35 9 44 (by decide) (dk_113_0 (35, .ifCond .ne 9, 3) (List.mem_of_getElem? (i := 19) rfl)),
  List.forall_mem_cons.mpr ⟨sd_oLdR_n 113 38 0 0 rfl (dk_113_0 (38, .aload_n 0, 1) (List.mem_of_getElem? (i := 20) rfl)),
  List.forall_mem_cons.mpr ⟨sd_iconst 113 39 2 ⟨by decide, by decide⟩ (dk_113_0 (39, .iconst 2, 1) (List.mem_of_getElem? (i := 21) rfl)),
  List.forall_mem_cons.mpr ⟨sd_callV 113 40 91 1 2 82 7 [] (gdV hws_113 hws_91 zw362 zw363 zw364 zw358 zw361) hws_91 rfl (by decide +kernel) rfl rfl ⟨by decide +kernel, by decide +kernel, by decide +kernel⟩ ⟨by decide, by decide⟩ (catch_nil rfl) RX6 rfl TX6 23 rfl ⟨by decide, by decide⟩ (dk_113_0 (40, .invokevirtual 82, 3) (List.mem_of_getElem? (i := 22) rfl)),
  List.forall_mem_cons.mpr ⟨sd_iret 113 43 rfl (dk_113_0 (43, .ireturn, 1) (List.mem_of_getElem? (i := 23) rfl)),
  List.forall_mem_cons.mpr ⟨sd_oLdR_n 113 44 0 0 rfl (dk_113_0 (44, .aload_n 0, 1) (List.mem_of_getElem? (i := 24) rfl)),
  List.forall_mem_cons.mpr ⟨sd_oLdI_n 113 45 1 1 rfl (dk_113_0 (45, .iload_n 1, 1) (List.mem_of_getElem? (i := 25) rfl)),
  List.forall_mem_cons.mpr ⟨sd_oLdI_n 113 46 2 2 rfl (dk_113_0 (46, .iload_n 2, 1) (List.mem_of_getElem? (i := 26) rfl)),
  List.forall_mem_cons.mpr ⟨sd_iconst 113 47 2 ⟨by decide, by decide⟩ (dk_113_0 (47, .iconst 2, 1) (List.mem_of_getElem? (i := 27) rfl)),
  List.forall_mem_cons.mpr ⟨sd_callV 113 48 110 3 4 137 7 [] (gdV hws_113 hws_110 zw406 zw407 zw408 zw358 zw405) hws_110 rfl (by decide +kernel) rfl rfl ⟨by decide +kernel, by decide +kernel, by decide +kernel⟩ ⟨by decide, by decide⟩ (catch_nil rfl) RX6 rfl TX6 23 rfl ⟨by decide, by decide⟩ (dk_113_0 (48, .invokevirtual 137, 3) (List.mem_of_getElem? (i := 28) rfl)),
  List.forall_mem_cons.mpr ⟨sd_if_eq 113 51 22 73 (by decide) (dk_113_0 (51, .ifCond .eq 22, 3) (List.mem_of_getElem? (i := 29) rfl)),
  List.forall_mem_cons.mpr ⟨sd_oLdR_n 113 54 0 0 rfl (dk_113_0 (54, .aload_n 0, 1) (List.mem_of_getElem? (i := 30) rfl)),
  List.forall_mem_cons.mpr ⟨sd_oGetR 113 55 7 12 33 RX6 TX6 23 rfl ⟨by decide, by decide⟩ rfl (by decide) rfl (fun w h => iw_113 w (uz_6 w h)) rfl (iw_113 _ zw341) (dk_113_0 (55, .getfield 33, 3) (List.mem_of_getElem? (i := 31) rfl)),
  List.forall_mem_cons.mpr ⟨sd_oLdI_n 113 58 2 2 rfl (dk_113_0 (58, .iload_n 2, 1) (List.mem_of_getElem? (i := 32) rfl)),
  List.forall_mem_cons.mpr ⟨sd_iald 113 59 (dk_113_0 (59, .iaload, 1) (List.mem_of_getElem? (i := 33) rfl)),
  List.forall_mem_cons.mpr ⟨sd_iconst 113 60 1 ⟨by decide, by decide⟩ (dk_113_0 (60, .iconst 1, 1) (List.mem_of_getElem? (i := 34) rfl)),
  List.forall_mem_cons.mpr ⟨sd_icmp_eq 113 61 12 73 (by decide) (dk_113_0 (61, .if_icmp .eq 12, 3) (List.mem_of_getElem? (i := 35) rfl)),
  fun _ h => nomatch h⟩⟩⟩⟩⟩⟩⟩⟩⟩⟩⟩⟩⟩⟩⟩⟩⟩⟩⟩⟩⟩⟩⟩⟩⟩⟩⟩⟩⟩⟩⟩⟩⟩⟩⟩⟩
def tb_113_1 : List (Nat × Op1) := [(64, oLdR 0 1), (65, oGetI 7 7), (68, oCI 60 2), (70, oCne 79), (73, oLdR 0 1), (74, oCI 3 1), (75, oCallV 91 1 2 7 []), (78, oRetI), (79, oLdR 0 1), (80, oGetR 7 18), (83, oLdR 0 1), (84, oGetR 7 11), (87, oLdI 2 1), (88, oALdI 10), (89, oCI 0 1), (90, oAStZ), (91, oLdR 0 1), (92, oLdI 1 1), (93, oLdI 3 1), (94, oLdI 2 1), (95, oCallV 111 3 4 7 []), (98, oRetI)]
theorem sm_113_1 : ∀ q ∈ tb_113_1, SM GwP MdP D A l 113 q.1 q.2 :=
  List.forall_mem_cons.mpr ⟨sd_oLdR_n 113 64 0 0 rfl (dk_113_0 (64, .aload_n 0, 1) (List.mem_of_getElem? (i := 36) rfl)),
  List.forall_mem_cons.mpr ⟨sd_oGetI 113 65 7 7 76 RX6 TX6 23 rfl ⟨by decide, by decide⟩ rfl (by decide) rfl (fun w h => iw_113 w (uz_6 w h)) rfl (iw_113 _ zw359) (dk_113_0 (65, .getfield 76, 3) (List.mem_of_getElem? (i := 37) rfl)),
  List.forall_mem_cons.mpr ⟨sd_bipush 113 68 60 ⟨by decide, by decide⟩ (by decide) (dk_113_0 (68, .bipush 60, 2) (List.mem_of_getElem? (i := 38) rfl)),
  List.forall_mem_cons.mpr ⟨sd_icmp_ne 113 70 9 79 (by decide) (dk_113_0 (70, .if_icmp .ne 9, 3) (List.mem_of_getElem? (i := 39) rfl)),
  List.forall_mem_cons.mpr ⟨sd_oLdR_n 113 73 0 0 rfl (dk_113_1 (73, .aload_n 0, 1) (List.mem_of_getElem? (i := 0) rfl)),
  List.forall_mem_cons.mpr ⟨sd_iconst 113 74 3 ⟨by decide, by decide⟩ (dk_113_1 (74, .iconst 3, 1) (List.mem_of_getElem? (i := 1) rfl)),
  List.forall_mem_cons.mpr ⟨sd_callV 113 75 91 1 2 82 7 [] (gdV hws_113 hws_91 zw362 zw363 zw364 zw358 zw361) hws_91 rfl (by decide +kernel) rfl rfl ⟨by decide +kernel, by decide +kernel, by decide +kernel⟩ ⟨by decide, by decide⟩ (catch_nil rfl) RX6 rfl TX6 23 rfl ⟨by decide, by decide⟩ (dk_113_1 (75, .invokevirtual 82, 3) (List.mem_of_getElem? (i := 2) rfl)),
  List.forall_mem_cons.mpr ⟨sd_iret 113 78 rfl (dk_113_1 (78, .ireturn, 1) (List.mem_of_getElem? (i := 3) rfl)),
  List.forall_mem_cons.mpr ⟨sd_oLdR_n 113 79 0 0 rfl (dk_113_1 (79, .aload_n 0, 1) (List.mem_of_getElem? (i := 4) rfl)),
  List.forall_mem_cons.mpr ⟨sd_oGetR 113 80 7 18 51 RX6 TX6 23 rfl ⟨by decide, by decide⟩ rfl (by decide) rfl (fun w h => iw_113 w (uz_6 w h)) rfl (iw_113 _ zw348) (dk_113_1 (80, .getfield 51, 3) (List.mem_of_getElem? (i := 5) rfl)),
  List.forall_mem_cons.mpr ⟨sd_oLdR_n 113 83 0 0 rfl (dk_113_1 (83, .aload_n 0, 1) (List.mem_of_getElem? (i := 6) rfl)),
  List.forall_mem_cons.mpr ⟨sd_oGetR 113 84 7 11 30 RX6 TX6 23 rfl ⟨by decide, by decide⟩ rfl (by decide) rfl (fun w h => iw_113 w (uz_6 w h)) rfl (iw_113 _ zw340) (dk_113_1 (84, .getfield 30, 3) (List.mem_of_getElem? (i := 7) rfl)),
  List.forall_mem_cons.mpr ⟨sd_oLdI_n 113 87 2 2 rfl (dk_113_1 (87, .iload_n 2, 1) (List.mem_of_getElem? (i := 8) rfl)),
  List.forall_mem_cons.mpr ⟨sd_iald 113 88 (dk_113_1 (88, .iaload, 1) (List.mem_of_getElem? (i := 9) rfl)),
  List.forall_mem_cons.mpr ⟨sd_iconst 113 89 0 ⟨by decide, by decide⟩ (dk_113_1 (89, .iconst 0, 1) (List.mem_of_getElem? (i := 10) rfl)),
  List.forall_mem_cons.mpr ⟨sd_zast 113 90 (dk_113_1 (90, .bastore, 1) (List.mem_of_getElem? (i := 11) rfl)),
  List.forall_mem_cons.mpr ⟨sd_oLdR_n 113 91 0 0 rfl (dk_113_1 (91, .aload_n 0, 1) (List.mem_of_getElem? (i := 12) rfl)),
  List.forall_mem_cons.mpr ⟨sd_oLdI_n 113 92 1 1 rfl (dk_113_1 (92, .iload_n 1, 1) (List.mem_of_getElem? (i := 13) rfl)),
  List.forall_mem_cons.mpr ⟨sd_oLdI_n 113 93 3 3 rfl (dk_113_1 (93, .iload_n 3, 1) (List.mem_of_getElem? (i := 14) rfl)),
  List.forall_mem_cons.mpr ⟨sd_oLdI_n 113 94 2 2 rfl (dk_113_1 (94, .iload_n 2, 1) (List.mem_of_getElem? (i := 15) rfl)),
  List.forall_mem_cons.mpr ⟨sd_callV 113 95 111 3 4 130 7 [] (gdV hws_113 hws_111 zw398 zw399 zw400 zw358 zw397) hws_111 rfl (by decide +kernel) rfl rfl ⟨by decide +kernel, by decide +kernel, by decide +kernel⟩ ⟨by decide, by decide⟩ (catch_nil rfl) RX6 rfl TX6 23 rfl ⟨by decide, by decide⟩ (dk_113_1 (95, .invokevirtual 130, 3) (List.mem_of_getElem? (i := 16) rfl)),
  List.forall_mem_cons.mpr ⟨sd_iret 113 98 rfl (dk_113_1 (98, .ireturn, 1) (List.mem_of_getElem? (i := 17) rfl)),
  fun _ h => nomatch h⟩⟩⟩⟩⟩⟩⟩⟩⟩⟩⟩⟩⟩⟩⟩⟩⟩⟩⟩⟩⟩⟩
def tb_113 : List (List (Nat × Op1)) := [tb_113_0, tb_113_1]
theorem sm_113 : ∀ t ∈ tb_113, ∀ q ∈ t, SM GwP MdP D A l 113 q.1 q.2 := List.forall_mem_cons.mpr ⟨sm_113_0, List.forall_mem_cons.mpr ⟨sm_113_1, fun _ h => nomatch h⟩⟩
-- 114: MarginaliaModel.settle(IIZ)Z
def dl_114_0 : List (Nat × Instr × Nat) := [(0, .aload_n 0, 1), (1, .iconst 0, 1), (2, .putfield 65, 3), (5, .aload_n 0, 1), (6, .iload_n 1, 1), (7, .invokevirtual 86, 3), (10, .ifCond .eq 11, 3), (13, .aload_n 0, 1), (14, .iload_n 2, 1), (15, .invokevirtual 134, 3), (18, .ifCond .ne 9, 3), (21, .aload_n 0, 1), (22, .iconst 1, 1), (23, .invokevirtual 140, 3), (26, .ireturn, 1), (27, .aload_n 0, 1), (28, .iload_n 1, 1), (29, .iload_n 2, 1), (30, .aload_n 0, 1), (31, .getfield 21, 3), (34, .aload_n 0, 1), (35, .getfield 30, 3), (38, .iload_n 2, 1), (39, .iaload, 1), (40, .iaload, 1), (41, .iload_n 1, 1), (42, .if_icmp .ne 7, 3), (45, .iconst 1, 1), (46, .goto 4, 3), (49, .iconst 3, 1), (50, .invokevirtual 137, 3), (53, .ifCond .ne 9, 3), (56, .aload_n 0, 1), (57, .iconst 2, 1), (58, .invokevirtual 140, 3), (61, .ireturn, 1), (62, .aload_n 0, 1), (63, .getfield 51, 3), (66, .aload_n 0, 1), (67, .getfield 30, 3)]
theorem dk_114_0 : ∀ q ∈ dl_114_0, decode (mCod (MdP 114)) q.1 = .ok q.2 := by
  rw [show mCod (MdP 114) = cX6_settle from rfl]
  decide +kernel
def dl_114_1 : List (Nat × Instr × Nat) := [(70, .iload_n 2, 1), (71, .iaload, 1), (72, .baload, 1), (73, .istore 4, 2), (75, .aload_n 0, 1), (76, .getfield 51, 3), (79, .aload_n 0, 1), (80, .getfield 30, 3), (83, .iload_n 2, 1), (84, .iaload, 1), (85, .iload_n 3, 1), (86, .bastore, 1), (87, .iload 4, 2), (89, .ireturn, 1)]
theorem dk_114_1 : ∀ q ∈ dl_114_1, decode (mCod (MdP 114)) q.1 = .ok q.2 := by
  rw [show mCod (MdP 114) = cX6_settle from rfl]
  decide +kernel
def tb_114_0 : List (Nat × Op1) := [(0, oLdR 0 1), (1, oCI 0 1), (2, oPutI 7 0), (5, oLdR 0 1), (6, oLdI 1 1), (7, oCallV 95 1 2 7 []), (10, oZeq 21), (13, oLdR 0 1), (14, oLdI 2 1), (15, oCallV 96 1 2 7 []), (18, oZne 27), (21, oLdR 0 1), (22, oCI 1 1), (23, oCallV 92 1 2 7 []), (26, oRetZ), (27, oLdR 0 1), (28, oLdI 1 1), (29, oLdI 2 1), (30, oLdR 0 1), (31, oGetR 7 8), (34, oLdR 0 1), (35, oGetR 7 11), (38, oLdI 2 1), (39, oALdI 10), (40, oALdI 10), (41, oLdI 1 1), (42, oCne 49), (45, oCI 1 1), (46, oGoto 50), (49, oCI 3 1), (50, oCallV 110 3 4 7 []), (53, oZne 62), (56, oLdR 0 1), (57, oCI 2 1), (58, oCallV 92 1 2 7 []), (61, oRetZ), (62, oLdR 0 1), (63, oGetR 7 18)]
theorem sm_114_0 : ∀ q ∈ tb_114_0, SM GwP MdP D A l 114 q.1 q.2 :=
  List.forall_mem_cons.mpr ⟨sd_oLdR_n 114 0 0 0 rfl (dk_114_0 (0, .aload_n 0, 1) (List.mem_of_getElem? (i := 0) rfl)),
  List.forall_mem_cons.mpr ⟨sd_iconst 114 1 0 ⟨by decide, by decide⟩ (dk_114_0 (1, .iconst 0, 1) (List.mem_of_getElem? (i := 1) rfl)),
  List.forall_mem_cons.mpr ⟨sd_oPutI 114 2 7 0 65 RX6 TX6 23 rfl ⟨by decide, by decide⟩ rfl (by decide) rfl (fun w h => iw_114 w (uz_6 w h)) rfl tyX6 tyX6_ok nmX6 rfl rfl (iw_114 _ zw353) (dk_114_0 (2, .putfield 65, 3) (List.mem_of_getElem? (i := 2) rfl)),
  List.forall_mem_cons.mpr ⟨sd_oLdR_n 114 5 0 0 rfl (dk_114_0 (5, .aload_n 0, 1) (List.mem_of_getElem? (i := 3) rfl)),
  List.forall_mem_cons.mpr ⟨sd_oLdI_n 114 6 1 1 rfl (dk_114_0 (6, .iload_n 1, 1) (List.mem_of_getElem? (i := 4) rfl)),
  List.forall_mem_cons.mpr ⟨sd_callV 114 7 95 1 2 86 7 [] (gdV hws_114 hws_95 zw366 zw367 zw368 zw358 zw365) hws_95 rfl (by decide +kernel) rfl rfl ⟨by decide +kernel, by decide +kernel, by decide +kernel⟩ ⟨by decide, by decide⟩ (catch_nil rfl) RX6 rfl TX6 23 rfl ⟨by decide, by decide⟩ (dk_114_0 (7, .invokevirtual 86, 3) (List.mem_of_getElem? (i := 5) rfl)),
  List.forall_mem_cons.mpr ⟨sd_if_eq 114 10 11 21 (by decide) (dk_114_0 (10, .ifCond .eq 11, 3) (List.mem_of_getElem? (i := 6) rfl)),
  List.forall_mem_cons.mpr ⟨sd_oLdR_n 114 13 0 0 rfl (dk_114_0 (13, .aload_n 0, 1) (List.mem_of_getElem? (i := 7) rfl)),
  List.forall_mem_cons.mpr ⟨sd_oLdI_n 114 14 2 2 rfl (dk_114_0 (14, .iload_n 2, 1) (List.mem_of_getElem? (i := 8) rfl)),
  List.forall_mem_cons.mpr ⟨sd_callV 114 15 96 1 2 134 7 [] (gdV hws_114 hws_96 zw402 zw403 zw404 zw358 zw401) hws_96 rfl (by decide +kernel) rfl rfl ⟨by decide +kernel, by decide +kernel, by decide +kernel⟩ ⟨by decide, by decide⟩ (catch_nil rfl) RX6 rfl TX6 23 rfl ⟨by decide, by decide⟩ (dk_114_0 (15, .invokevirtual 134, 3) (List.mem_of_getElem? (i := 9) rfl)),
  List.forall_mem_cons.mpr ⟨sd_if_ne 114 18 9 27 (by decide) (dk_114_0 (18, .ifCond .ne 9, 3) (List.mem_of_getElem? (i := 10) rfl)),
  List.forall_mem_cons.mpr ⟨sd_oLdR_n 114 21 0 0 rfl (dk_114_0 (21, .aload_n 0, 1) (List.mem_of_getElem? (i := 11) rfl)),
  List.forall_mem_cons.mpr ⟨sd_iconst 114 22 1 ⟨by decide, by decide⟩ (dk_114_0 (22, .iconst 1, 1) (List.mem_of_getElem? (i := 12) rfl)),
  List.forall_mem_cons.mpr ⟨sd_callV 114 23 92 1 2 140 7 [] (gdV hws_114 hws_92 zw410 zw411 zw412 zw358 zw409) hws_92 rfl (by decide +kernel) rfl rfl ⟨by decide +kernel, by decide +kernel, by decide +kernel⟩ ⟨by decide, by decide⟩ (catch_nil rfl) RX6 rfl TX6 23 rfl ⟨by decide, by decide⟩ (dk_114_0 (23, .invokevirtual 140, 3) (List.mem_of_getElem? (i := 13) rfl)),
  List.forall_mem_cons.mpr ⟨sd_zret 114 26 rfl (dk_114_0 (26, .ireturn, 1) (List.mem_of_getElem? (i := 14) rfl)),
  List.forall_mem_cons.mpr ⟨sd_oLdR_n 114 27 0 0 rfl (dk_114_0 (27, .aload_n 0, 1) (List.mem_of_getElem? (i := 15) rfl)),
  List.forall_mem_cons.mpr ⟨sd_oLdI_n 114 28 1 1 rfl (dk_114_0 (28, .iload_n 1, 1) (List.mem_of_getElem? (i := 16) rfl)),
  List.forall_mem_cons.mpr ⟨sd_oLdI_n 114 29 2 2 rfl (dk_114_0 (29, .iload_n 2, 1) (List.mem_of_getElem? (i := 17) rfl)),
  List.forall_mem_cons.mpr ⟨sd_oLdR_n 114 30 0 0 rfl (dk_114_0 (30, .aload_n 0, 1) (List.mem_of_getElem? (i := 18) rfl)),
  List.forall_mem_cons.mpr ⟨sd_oGetR 114 31 7 8 21 RX6 TX6 23 rfl ⟨by decide, by decide⟩ rfl (by decide) rfl (fun w h => iw_114 w (uz_6 w h)) rfl (iw_114 _ zw337) (dk_114_0 (31, .getfield 21, 3) (List.mem_of_getElem? (i := 19) rfl)),
  List.forall_mem_cons.mpr ⟨sd_oLdR_n 114 34 0 0 rfl (dk_114_0 (34, .aload_n 0, 1) (List.mem_of_getElem? (i := 20) rfl)),
  List.forall_mem_cons.mpr ⟨sd_oGetR 114 35 7 11 30 RX6 TX6 23 rfl ⟨by decide, by decide⟩ rfl (by decide) rfl (fun w h => iw_114 w (uz_6 w h)) rfl (iw_114 _ zw340) (dk_114_0 (35, .getfield 30, 3) (List.mem_of_getElem? (i := 21) rfl)),
  List.forall_mem_cons.mpr ⟨sd_oLdI_n 114 38 2 2 rfl (dk_114_0 (38, .iload_n 2, 1) (List.mem_of_getElem? (i := 22) rfl)),
  List.forall_mem_cons.mpr ⟨sd_iald 114 39 (dk_114_0 (39, .iaload, 1) (List.mem_of_getElem? (i := 23) rfl)),
  List.forall_mem_cons.mpr ⟨sd_iald 114 40 (dk_114_0 (40, .iaload, 1) (List.mem_of_getElem? (i := 24) rfl)),
  List.forall_mem_cons.mpr ⟨sd_oLdI_n 114 41 1 1 rfl (dk_114_0 (41, .iload_n 1, 1) (List.mem_of_getElem? (i := 25) rfl)),
  List.forall_mem_cons.mpr ⟨sd_icmp_ne 114 42 7 49 (by decide) (dk_114_0 (42, .if_icmp .ne 7, 3) (List.mem_of_getElem? (i := 26) rfl)),
  List.forall_mem_cons.mpr ⟨sd_iconst 114 45 1 ⟨by decide, by decide⟩ (dk_114_0 (45, .iconst 1, 1) (List.mem_of_getElem? (i := 27) rfl)),
  List.forall_mem_cons.mpr ⟨sd_goto 114 46 4 50 (by decide) (dk_114_0 (46, .goto 4, 3) (List.mem_of_getElem? (i := 28) rfl)),
  List.forall_mem_cons.mpr ⟨sd_iconst 114 49 3 ⟨by decide, by decide⟩ (dk_114_0 (49, .iconst 3, 1) (List.mem_of_getElem? (i := 29) rfl)),
  List.forall_mem_cons.mpr ⟨sd_callV 114 50 110 3 4 137 7 [] (gdV hws_114 hws_110 zw406 zw407 zw408 zw358 zw405) hws_110 rfl (by decide +kernel) rfl rfl ⟨by decide +kernel, by decide +kernel, by decide +kernel⟩ ⟨by decide, by decide⟩ (catch_nil rfl) RX6 rfl TX6 23 rfl ⟨by decide, by decide⟩ (dk_114_0 (50, .invokevirtual 137, 3) (List.mem_of_getElem? (i := 30) rfl)),
  List.forall_mem_cons.mpr ⟨sd_if_ne 114 53 9 62 (by decide) (dk_114_0 (53, .ifCond .ne 9, 3) (List.mem_of_getElem? (i := 31) rfl)),
  List.forall_mem_cons.mpr ⟨sd_oLdR_n 114 56 0 0 rfl (dk_114_0 (56, .aload_n 0, 1) (List.mem_of_getElem? (i := 32) rfl)),
  List.forall_mem_cons.mpr ⟨sd_iconst 114 57 2 ⟨by decide, by decide⟩ (dk_114_0 (57, .iconst 2, 1) (List.mem_of_getElem? (i := 33) rfl)),
  List.forall_mem_cons.mpr ⟨sd_callV 114 58 92 1 2 140 7 [] (gdV hws_114 hws_92 zw410 zw411 zw412 zw358 zw409) hws_92 rfl (by decide +kernel) rfl rfl ⟨by decide +kernel, by decide +kernel, by decide +kernel⟩ ⟨by decide, by decide⟩ (catch_nil rfl) RX6 rfl TX6 23 rfl ⟨by decide, by decide⟩ (dk_114_0 (58, .invokevirtual 140, 3) (List.mem_of_getElem? (i := 34) rfl)),
  List.forall_mem_cons.mpr ⟨sd_zret 114 61 rfl (dk_114_0 (61, .ireturn, 1) (List.mem_of_getElem? (i := 35) rfl)),
  List.forall_mem_cons.mpr ⟨sd_oLdR_n 114 62 0 0 rfl (dk_114_0 (62, .aload_n 0, 1) (List.mem_of_getElem? (i := 36) rfl)),
  List.forall_mem_cons.mpr ⟨sd_oGetR 114 63 7 18 51 RX6 TX6 23 rfl ⟨by decide, by decide⟩ rfl (by decide) rfl (fun w h => iw_114 w (uz_6 w h)) rfl (iw_114 _ zw348) (dk_114_0 (63, .getfield 51, 3) (List.mem_of_getElem? (i := 37) rfl)),
  fun _ h => nomatch h⟩⟩⟩⟩⟩⟩⟩⟩⟩⟩⟩⟩⟩⟩⟩⟩⟩⟩⟩⟩⟩⟩⟩⟩⟩⟩⟩⟩⟩⟩⟩⟩⟩⟩⟩⟩⟩⟩
def tb_114_1 : List (Nat × Op1) := [(66, oLdR 0 1), (67, oGetR 7 11), (70, oLdI 2 1), (71, oALdI 10), (72, oALdI 12), (73, oStI 4 2), (75, oLdR 0 1), (76, oGetR 7 18), (79, oLdR 0 1), (80, oGetR 7 11), (83, oLdI 2 1), (84, oALdI 10), (85, oLdI 3 1), (86, oAStZ), (87, oLdI 4 2), (89, oRetZ)]
theorem sm_114_1 : ∀ q ∈ tb_114_1, SM GwP MdP D A l 114 q.1 q.2 :=
  List.forall_mem_cons.mpr ⟨sd_oLdR_n 114 66 0 0 rfl (dk_114_0 (66, .aload_n 0, 1) (List.mem_of_getElem? (i := 38) rfl)),
  List.forall_mem_cons.mpr ⟨sd_oGetR 114 67 7 11 30 RX6 TX6 23 rfl ⟨by decide, by decide⟩ rfl (by decide) rfl (fun w h => iw_114 w (uz_6 w h)) rfl (iw_114 _ zw340) (dk_114_0 (67, .getfield 30, 3) (List.mem_of_getElem? (i := 39) rfl)),
  List.forall_mem_cons.mpr ⟨sd_oLdI_n 114 70 2 2 rfl (dk_114_1 (70, .iload_n 2, 1) (List.mem_of_getElem? (i := 0) rfl)),
  List.forall_mem_cons.mpr ⟨sd_iald 114 71 (dk_114_1 (71, .iaload, 1) (List.mem_of_getElem? (i := 1) rfl)),
  List.forall_mem_cons.mpr ⟨sd_zald 114 72 (dk_114_1 (72, .baload, 1) (List.mem_of_getElem? (i := 2) rfl)),
  List.forall_mem_cons.mpr ⟨sd_oStI 114 73 4 (by decide) (dk_114_1 (73, .istore 4, 2) (List.mem_of_getElem? (i := 3) rfl)),
  List.forall_mem_cons.mpr ⟨sd_oLdR_n 114 75 0 0 rfl (dk_114_1 (75, .aload_n 0, 1) (List.mem_of_getElem? (i := 4) rfl)),
  List.forall_mem_cons.mpr ⟨sd_oGetR 114 76 7 18 51 RX6 TX6 23 rfl ⟨by decide, by decide⟩ rfl (by decide) rfl (fun w h => iw_114 w (uz_6 w h)) rfl (iw_114 _ zw348) (dk_114_1 (76, .getfield 51, 3) (List.mem_of_getElem? (i := 5) rfl)),
  List.forall_mem_cons.mpr ⟨sd_oLdR_n 114 79 0 0 rfl (dk_114_1 (79, .aload_n 0, 1) (List.mem_of_getElem? (i := 6) rfl)),
  List.forall_mem_cons.mpr ⟨sd_oGetR 114 80 7 11 30 RX6 TX6 23 rfl ⟨by decide, by decide⟩ rfl (by decide) rfl (fun w h => iw_114 w (uz_6 w h)) rfl (iw_114 _ zw340) (dk_114_1 (80, .getfield 30, 3) (List.mem_of_getElem? (i := 7) rfl)),
  List.forall_mem_cons.mpr ⟨sd_oLdI_n 114 83 2 2 rfl (dk_114_1 (83, .iload_n 2, 1) (List.mem_of_getElem? (i := 8) rfl)),
  List.forall_mem_cons.mpr ⟨sd_iald 114 84 (dk_114_1 (84, .iaload, 1) (List.mem_of_getElem? (i := 9) rfl)),
  List.forall_mem_cons.mpr ⟨sd_oLdI_n 114 85 3 3 rfl (dk_114_1 (85, .iload_n 3, 1) (List.mem_of_getElem? (i := 10) rfl)),
  List.forall_mem_cons.mpr ⟨sd_zast 114 86 (dk_114_1 (86, .bastore, 1) (List.mem_of_getElem? (i := 11) rfl)),
  List.forall_mem_cons.mpr ⟨sd_oLdI 114 87 4 (dk_114_1 (87, .iload 4, 2) (List.mem_of_getElem? (i := 12) rfl)),
  List.forall_mem_cons.mpr ⟨sd_zret 114 89 rfl (dk_114_1 (89, .ireturn, 1) (List.mem_of_getElem? (i := 13) rfl)),
  fun _ h => nomatch h⟩⟩⟩⟩⟩⟩⟩⟩⟩⟩⟩⟩⟩⟩⟩⟩
def tb_114 : List (List (Nat × Op1)) := [tb_114_0, tb_114_1]
theorem sm_114 : ∀ t ∈ tb_114, ∀ q ∈ t, SM GwP MdP D A l 114 q.1 q.2 := List.forall_mem_cons.mpr ⟨sm_114_0, List.forall_mem_cons.mpr ⟨sm_114_1, fun _ h => nomatch h⟩⟩
-- 115: MarginaliaModel.replies(I)I
def dl_115_0 : List (Nat × Instr × Nat) := [(0, .iconst 0, 1), (1, .istore_n 2, 1), (2, .iload_n 1, 1), (3, .iconst 1, 1), (4, .iadd, 1), (5, .istore_n 3, 1), (6, .iload_n 3, 1), (7, .aload_n 0, 1), (8, .getfield 76, 3), (11, .if_icmp .ge 37, 3), (14, .iload_n 2, 1), (15, .aload_n 0, 1), (16, .getfield 27, 3), (19, .iload_n 3, 1), (20, .iaload, 1), (21, .iload_n 1, 1), (22, .if_icmp .ne 17, 3), (25, .aload_n 0, 1), (26, .getfield 33, 3), (29, .iload_n 3, 1), (30, .iaload, 1), (31, .iconst 2, 1), (32, .if_icmp .eq 7, 3), (35, .iconst 1, 1), (36, .goto 4, 3), (39, .iconst 0, 1), (40, .iadd, 1), (41, .istore_n 2, 1), (42, .iinc 3 1, 3), (45, .goto (-39), 3), (48, .iload_n 2, 1), (49, .ireturn, 1)]
theorem dk_115_0 : ∀ q ∈ dl_115_0, decode (mCod (MdP 115)) q.1 = .ok q.2 := by
  rw [show mCod (MdP 115) = cX6_replies from rfl]
  decide +kernel
def tb_115_0 : List (Nat × Op1) := [(0, oCI 0 1), (1, oStI 2 1), (2, oLdI 1 1), (3, oCI 1 1), (4, oAdd), (5, oStI 3 1), (6, oLdI 3 1), (7, oLdR 0 1), (8, oGetI 7 7), (11, oCge 48), (14, oLdI 2 1), (15, oLdR 0 1), (16, oGetR 7 10), (19, oLdI 3 1), (20, oALdI 10), (21, oLdI 1 1), (22, oCne 39), (25, oLdR 0 1), (26, oGetR 7 12), (29, oLdI 3 1), (30, oALdI 10), (31, oCI 2 1), (32, oCeq 39), (35, oCI 1 1), (36, oGoto 40), (39, oCI 0 1), (40, oAdd), (41, oStI 2 1), (42, oInc 3 1), (45, oGoto 6), (48, oLdI 2 1), (49, oRetI)]
theorem sm_115_0 : ∀ q ∈ tb_115_0, SM GwP MdP D A l 115 q.1 q.2 :=
  List.forall_mem_cons.mpr ⟨sd_iconst 115 0 0 ⟨by decide, by decide⟩ (dk_115_0 (0, .iconst 0, 1) (List.mem_of_getElem? (i := 0) rfl)),
  List.forall_mem_cons.mpr ⟨sd_oStI_n 115 1 2 2 rfl (by decide) (dk_115_0 (1, .istore_n 2, 1) (List.mem_of_getElem? (i := 1) rfl)),
  List.forall_mem_cons.mpr ⟨sd_oLdI_n 115 2 1 1 rfl (dk_115_0 (2, .iload_n 1, 1) (List.mem_of_getElem? (i := 2) rfl)),
  List.forall_mem_cons.mpr ⟨sd_iconst 115 3 1 ⟨by decide, by decide⟩ (dk_115_0 (3, .iconst 1, 1) (List.mem_of_getElem? (i := 3) rfl)),
  List.forall_mem_cons.mpr ⟨sd_iadd 115 4 (dk_115_0 (4, .iadd, 1) (List.mem_of_getElem? (i := 4) rfl)),
  List.forall_mem_cons.mpr ⟨sd_oStI_n 115 5 3 3 rfl (by decide) (dk_115_0 (5, .istore_n 3, 1) (List.mem_of_getElem? (i := 5) rfl)),
  List.forall_mem_cons.mpr ⟨sd_oLdI_n 115 6 3 3 rfl (dk_115_0 (6, .iload_n 3, 1) (List.mem_of_getElem? (i := 6) rfl)),
  List.forall_mem_cons.mpr ⟨sd_oLdR_n 115 7 0 0 rfl (dk_115_0 (7, .aload_n 0, 1) (List.mem_of_getElem? (i := 7) rfl)),
  List.forall_mem_cons.mpr ⟨sd_oGetI 115 8 7 7 76 RX6 TX6 23 rfl ⟨by decide, by decide⟩ rfl (by decide) rfl (fun w h => iw_115 w (uz_6 w h)) rfl (iw_115 _ zw359) (dk_115_0 (8, .getfield 76, 3) (List.mem_of_getElem? (i := 8) rfl)),
  List.forall_mem_cons.mpr ⟨sd_icmp_ge 115 11 37 48 (by decide) (dk_115_0 (11, .if_icmp .ge 37, 3) (List.mem_of_getElem? (i := 9) rfl)),
  List.forall_mem_cons.mpr ⟨sd_oLdI_n 115 14 2 2 rfl (dk_115_0 (14, .iload_n 2, 1) (List.mem_of_getElem? (i := 10) rfl)),
  List.forall_mem_cons.mpr ⟨sd_oLdR_n 115 15 0 0 rfl (dk_115_0 (15, .aload_n 0, 1) (List.mem_of_getElem? (i := 11) rfl)),
  List.forall_mem_cons.mpr ⟨sd_oGetR 115 16 7 10 27 RX6 TX6 23 rfl ⟨by decide, by decide⟩ rfl (by decide) rfl (fun w h => iw_115 w (uz_6 w h)) rfl (iw_115 _ zw339) (dk_115_0 (16, .getfield 27, 3) (List.mem_of_getElem? (i := 12) rfl)),
  List.forall_mem_cons.mpr ⟨sd_oLdI_n 115 19 3 3 rfl (dk_115_0 (19, .iload_n 3, 1) (List.mem_of_getElem? (i := 13) rfl)),
  List.forall_mem_cons.mpr ⟨sd_iald 115 20 (dk_115_0 (20, .iaload, 1) (List.mem_of_getElem? (i := 14) rfl)),
  List.forall_mem_cons.mpr ⟨sd_oLdI_n 115 21 1 1 rfl (dk_115_0 (21, .iload_n 1, 1) (List.mem_of_getElem? (i := 15) rfl)),
  List.forall_mem_cons.mpr ⟨sd_icmp_ne 115 22 17 39 (by decide) (dk_115_0 (22, .if_icmp .ne 17, 3) (List.mem_of_getElem? (i := 16) rfl)),
  List.forall_mem_cons.mpr ⟨sd_oLdR_n 115 25 0 0 rfl (dk_115_0 (25, .aload_n 0, 1) (List.mem_of_getElem? (i := 17) rfl)),
  List.forall_mem_cons.mpr ⟨sd_oGetR 115 26 7 12 33 RX6 TX6 23 rfl ⟨by decide, by decide⟩ rfl (by decide) rfl (fun w h => iw_115 w (uz_6 w h)) rfl (iw_115 _ zw341) (dk_115_0 (26, .getfield 33, 3) (List.mem_of_getElem? (i := 18) rfl)),
  List.forall_mem_cons.mpr ⟨sd_oLdI_n 115 29 3 3 rfl (dk_115_0 (29, .iload_n 3, 1) (List.mem_of_getElem? (i := 19) rfl)),
  List.forall_mem_cons.mpr ⟨sd_iald 115 30 (dk_115_0 (30, .iaload, 1) (List.mem_of_getElem? (i := 20) rfl)),
  List.forall_mem_cons.mpr ⟨sd_iconst 115 31 2 ⟨by decide, by decide⟩ (dk_115_0 (31, .iconst 2, 1) (List.mem_of_getElem? (i := 21) rfl)),
  List.forall_mem_cons.mpr ⟨sd_icmp_eq 115 32 7 39 (by decide) (dk_115_0 (32, .if_icmp .eq 7, 3) (List.mem_of_getElem? (i := 22) rfl)),
  List.forall_mem_cons.mpr ⟨sd_iconst 115 35 1 ⟨by decide, by decide⟩ (dk_115_0 (35, .iconst 1, 1) (List.mem_of_getElem? (i := 23) rfl)),
  List.forall_mem_cons.mpr ⟨sd_goto 115 36 4 40 (by decide) (dk_115_0 (36, .goto 4, 3) (List.mem_of_getElem? (i := 24) rfl)),
  List.forall_mem_cons.mpr ⟨sd_iconst 115 39 0 ⟨by decide, by decide⟩ (dk_115_0 (39, .iconst 0, 1) (List.mem_of_getElem? (i := 25) rfl)),
  List.forall_mem_cons.mpr ⟨sd_iadd 115 40 (dk_115_0 (40, .iadd, 1) (List.mem_of_getElem? (i := 26) rfl)),
  List.forall_mem_cons.mpr ⟨sd_oStI_n 115 41 2 2 rfl (by decide) (dk_115_0 (41, .istore_n 2, 1) (List.mem_of_getElem? (i := 27) rfl)),
  List.forall_mem_cons.mpr ⟨sd_iinc 115 42 3 1 (by decide) (dk_115_0 (42, .iinc 3 1, 3) (List.mem_of_getElem? (i := 28) rfl)),
  List.forall_mem_cons.mpr ⟨sd_goto 115 45 (-39) 6 (by decide) (dk_115_0 (45, .goto (-39), 3) (List.mem_of_getElem? (i := 29) rfl)),
  List.forall_mem_cons.mpr ⟨sd_oLdI_n 115 48 2 2 rfl (dk_115_0 (48, .iload_n 2, 1) (List.mem_of_getElem? (i := 30) rfl)),
  List.forall_mem_cons.mpr ⟨sd_iret 115 49 rfl (dk_115_0 (49, .ireturn, 1) (List.mem_of_getElem? (i := 31) rfl)),
  fun _ h => nomatch h⟩⟩⟩⟩⟩⟩⟩⟩⟩⟩⟩⟩⟩⟩⟩⟩⟩⟩⟩⟩⟩⟩⟩⟩⟩⟩⟩⟩⟩⟩⟩⟩
def tb_115 : List (List (Nat × Op1)) := [tb_115_0]
theorem sm_115 : ∀ t ∈ tb_115, ∀ q ∈ t, SM GwP MdP D A l 115 q.1 q.2 := List.forall_mem_cons.mpr ⟨sm_115_0, fun _ h => nomatch h⟩
-- 116: MarginaliaModel.remove(II)I
def dl_116_0 : List (Nat × Instr × Nat) := [(0, .aload_n 0, 1), (1, .iconst 0, 1), (2, .putfield 65, 3), (5, .aload_n 0, 1), (6, .iload_n 1, 1), (7, .invokevirtual 86, 3), (10, .ifCond .eq 11, 3), (13, .aload_n 0, 1), (14, .iload_n 2, 1), (15, .invokevirtual 134, 3), (18, .ifCond .ne 9, 3), (21, .aload_n 0, 1), (22, .iconst 1, 1), (23, .invokevirtual 82, 3), (26, .ireturn, 1), (27, .aload_n 0, 1), (28, .iload_n 1, 1), (29, .iload_n 2, 1), (30, .aload_n 0, 1), (31, .getfield 21, 3), (34, .iload_n 2, 1), (35, .iaload, 1), (36, .iload_n 1, 1), (37, .if_icmp .ne 7, 3), (40, .iconst 1, 1), (41, .goto 4, 3), (44, .iconst 4, 1), (45, .invokevirtual 137, 3), (48, .ifCond .eq 13, 3), (51, .aload_n 0, 1), (52, .getfield 33, 3), (55, .iload_n 2, 1), (56, .iaload, 1), (57, .iconst 1, 1), (58, .if_icmp .ne 9, 3), (61, .aload_n 0, 1), (62, .iconst 2, 1), (63, .invokevirtual 82, 3), (66, .ireturn, 1), (67, .aload_n 0, 1)]
theorem dk_116_0 : ∀ q ∈ dl_116_0, decode (mCod (MdP 116)) q.1 = .ok q.2 := by
  rw [show mCod (MdP 116) = cX6_remove from rfl]
  decide +kernel
def dl_116_1 : List (Nat × Instr × Nat) := [(68, .getfield 33, 3), (71, .iload_n 2, 1), (72, .iconst 1, 1), (73, .iastore, 1), (74, .iconst 0, 1), (75, .istore_n 3, 1), (76, .iload_n 2, 1), (77, .istore 4, 2), (79, .iload 4, 2), (81, .iconst (-1), 1), (82, .if_icmp .eq 46, 3), (85, .aload_n 0, 1), (86, .getfield 33, 3), (89, .iload 4, 2), (91, .iaload, 1), (92, .iconst 1, 1), (93, .if_icmp .ne 35, 3), (96, .aload_n 0, 1), (97, .iload 4, 2), (99, .invokevirtual 143, 3), (102, .ifCond .ne 26, 3), (105, .aload_n 0, 1), (106, .getfield 33, 3), (109, .iload 4, 2), (111, .iconst 2, 1), (112, .iastore, 1), (113, .iinc 3 1, 3), (116, .aload_n 0, 1), (117, .getfield 27, 3), (120, .iload 4, 2), (122, .iaload, 1), (123, .istore 4, 2), (125, .goto (-46), 3), (128, .iload_n 3, 1), (129, .ireturn, 1)]
theorem dk_116_1 : ∀ q ∈ dl_116_1, decode (mCod (MdP 116)) q.1 = .ok q.2 := by
  rw [show mCod (MdP 116) = cX6_remove from rfl]
  decide +kernel
def tb_116_0 : List (Nat × Op1) := [(0, oLdR 0 1), (1, oCI 0 1), (2, oPutI 7 0), (5, oLdR 0 1), (6, oLdI 1 1), (7, oCallV 95 1 2 7 []), (10, oZeq 21), (13, oLdR 0 1), (14, oLdI 2 1), (15, oCallV 96 1 2 7 []), (18, oZne 27), (21, oLdR 0 1), (22, oCI 1 1), (23, oCallV 91 1 2 7 []), (26, oRetI), (27, oLdR 0 1), (28, oLdI 1 1), (29, oLdI 2 1), (30, oLdR 0 1), (31, oGetR 7 8), (34, oLdI 2 1), (35, oALdI 10), (36, oLdI 1 1), (37, oCne 44), (40, oCI 1 1), (41, oGoto 45), (44, oCI 4 1), (45, oCallV 110 3 4 7 []), (48, oZeq 61), (51, oLdR 0 1), (52, oGetR 7 12), (55, oLdI 2 1), (56, oALdI 10), (57, oCI 1 1), (58, oCne 67), (61, oLdR 0 1), (62, oCI 2 1), (63, oCallV 91 1 2 7 [])]
theorem sm_116_0 : ∀ q ∈ tb_116_0, SM GwP MdP D A l 116 q.1 q.2 :=
  List.forall_mem_cons.mpr ⟨sd_oLdR_n 116 0 0 0 rfl (dk_116_0 (0, .aload_n 0, 1) (List.mem_of_getElem? (i := 0) rfl)),
  List.forall_mem_cons.mpr ⟨sd_iconst 116 1 0 ⟨by decide, by decide⟩ (dk_116_0 (1, .iconst 0, 1) (List.mem_of_getElem? (i := 1) rfl)),
  List.forall_mem_cons.mpr ⟨sd_oPutI 116 2 7 0 65 RX6 TX6 23 rfl ⟨by decide, by decide⟩ rfl (by decide) rfl (fun w h => iw_116 w (uz_6 w h)) rfl tyX6 tyX6_ok nmX6 rfl rfl (iw_116 _ zw353) (dk_116_0 (2, .putfield 65, 3) (List.mem_of_getElem? (i := 2) rfl)),
  List.forall_mem_cons.mpr ⟨sd_oLdR_n 116 5 0 0 rfl (dk_116_0 (5, .aload_n 0, 1) (List.mem_of_getElem? (i := 3) rfl)),
  List.forall_mem_cons.mpr ⟨sd_oLdI_n 116 6 1 1 rfl (dk_116_0 (6, .iload_n 1, 1) (List.mem_of_getElem? (i := 4) rfl)),
  List.forall_mem_cons.mpr ⟨sd_callV 116 7 95 1 2 86 7 [] (gdV hws_116 hws_95 zw366 zw367 zw368 zw358 zw365) hws_95 rfl (by decide +kernel) rfl rfl ⟨by decide +kernel, by decide +kernel, by decide +kernel⟩ ⟨by decide, by decide⟩ (catch_nil rfl) RX6 rfl TX6 23 rfl ⟨by decide, by decide⟩ (dk_116_0 (7, .invokevirtual 86, 3) (List.mem_of_getElem? (i := 5) rfl)),
  List.forall_mem_cons.mpr ⟨sd_if_eq 116 10 11 21 (by decide) (dk_116_0 (10, .ifCond .eq 11, 3) (List.mem_of_getElem? (i := 6) rfl)),
  List.forall_mem_cons.mpr ⟨sd_oLdR_n 116 13 0 0 rfl (dk_116_0 (13, .aload_n 0, 1) (List.mem_of_getElem? (i := 7) rfl)),
  List.forall_mem_cons.mpr ⟨sd_oLdI_n 116 14 2 2 rfl (dk_116_0 (14, .iload_n 2, 1) (List.mem_of_getElem? (i := 8) rfl)),
  List.forall_mem_cons.mpr ⟨sd_callV 116 15 96 1 2 134 7 [] (gdV hws_116 hws_96 zw402 zw403 zw404 zw358 zw401) hws_96 rfl (by decide +kernel) rfl rfl ⟨by decide +kernel, by decide +kernel, by decide +kernel⟩ ⟨by decide, by decide⟩ (catch_nil rfl) RX6 rfl TX6 23 rfl ⟨by decide, by decide⟩ (dk_116_0 (15, .invokevirtual 134, 3) (List.mem_of_getElem? (i := 9) rfl)),
  List.forall_mem_cons.mpr ⟨sd_if_ne 116 18 9 27 (by decide) (dk_116_0 (18, .ifCond .ne 9, 3) (List.mem_of_getElem? (i := 10) rfl)),
  List.forall_mem_cons.mpr ⟨sd_oLdR_n 116 21 0 0 rfl (dk_116_0 (21, .aload_n 0, 1) (List.mem_of_getElem? (i := 11) rfl)),
  List.forall_mem_cons.mpr ⟨sd_iconst 116 22 1 ⟨by decide, by decide⟩ (dk_116_0 (22, .iconst 1, 1) (List.mem_of_getElem? (i := 12) rfl)),
  List.forall_mem_cons.mpr ⟨sd_callV 116 23 91 1 2 82 7 [] (gdV hws_116 hws_91 zw362 zw363 zw364 zw358 zw361) hws_91 rfl (by decide +kernel) rfl rfl ⟨by decide +kernel, by decide +kernel, by decide +kernel⟩ ⟨by decide, by decide⟩ (catch_nil rfl) RX6 rfl TX6 23 rfl ⟨by decide, by decide⟩ (dk_116_0 (23, .invokevirtual 82, 3) (List.mem_of_getElem? (i := 13) rfl)),
  List.forall_mem_cons.mpr ⟨sd_iret 116 26 rfl (dk_116_0 (26, .ireturn, 1) (List.mem_of_getElem? (i := 14) rfl)),
  List.forall_mem_cons.mpr ⟨sd_oLdR_n 116 27 0 0 rfl (dk_116_0 (27, .aload_n 0, 1) (List.mem_of_getElem? (i := 15) rfl)),
  List.forall_mem_cons.mpr ⟨sd_oLdI_n 116 28 1 1 rfl (dk_116_0 (28, .iload_n 1, 1) (List.mem_of_getElem? (i := 16) rfl)),
  List.forall_mem_cons.mpr ⟨sd_oLdI_n 116 29 2 2 rfl (dk_116_0 (29, .iload_n 2, 1) (List.mem_of_getElem? (i := 17) rfl)),
  List.forall_mem_cons.mpr ⟨sd_oLdR_n 116 30 0 0 rfl (dk_116_0 (30, .aload_n 0, 1) (List.mem_of_getElem? (i := 18) rfl)),
  List.forall_mem_cons.mpr ⟨sd_oGetR 116 31 7 8 21 RX6 TX6 23 rfl ⟨by decide, by decide⟩ rfl (by decide) rfl (fun w h => iw_116 w (uz_6 w h)) rfl (iw_116 _ zw337) (dk_116_0 (31, .getfield 21, 3) (List.mem_of_getElem? (i := 19) rfl)),
  List.forall_mem_cons.mpr ⟨sd_oLdI_n 116 34 2 2 rfl (dk_116_0 (34, .iload_n 2, 1) (List.mem_of_getElem? (i := 20) rfl)),
  List.forall_mem_cons.mpr ⟨sd_iald 116 35 (dk_116_0 (35, .iaload, 1) (List.mem_of_getElem? (i := 21) rfl)),
  List.forall_mem_cons.mpr ⟨sd_oLdI_n 116 36 1 1 rfl (dk_116_0 (36, .iload_n 1, 1) (List.mem_of_getElem? (i := 22) rfl)),
  List.forall_mem_cons.mpr ⟨sd_icmp_ne 116 37 7 44 (by decide) (dk_116_0 (37, .if_icmp .ne 7, 3) (List.mem_of_getElem? (i := 23) rfl)),
  List.forall_mem_cons.mpr ⟨sd_iconst 116 40 1 ⟨by decide, by decide⟩ (dk_116_0 (40, .iconst 1, 1) (List.mem_of_getElem? (i := 24) rfl)),
  List.forall_mem_cons.mpr ⟨sd_goto 116 41 4 45 (by decide) (dk_116_0 (41, .goto 4, 3) (List.mem_of_getElem? (i := 25) rfl)),
  List.forall_mem_cons.mpr ⟨sd_iconst 116 44 4 ⟨by decide, by decide⟩ (dk_116_0 (44, .iconst 4, 1) (List.mem_of_getElem? (i := 26) rfl)),
  List.forall_mem_cons.mpr ⟨sd_callV 116 45 110 3 4 137 7 [] (gdV hws_116 hws_110 zw406 zw407 zw408 zw358 zw405) hws_110 rfl (by decide +kernel) rfl rfl ⟨by decide +kernel, by decide +kernel, by decide +kernel⟩ ⟨by decide, by decide⟩ (catch_nil rfl) RX6 rfl TX6 23 rfl ⟨by decide, by decide⟩ (dk_116_0 (45, .invokevirtual 137, 3) (List.mem_of_getElem? (i := 27) rfl)),
  List.forall_mem_cons.mpr ⟨sd_if_eq 116 48 13 61 (by decide) (dk_116_0 (48, .ifCond .eq 13, 3) (List.mem_of_getElem? (i := 28) rfl)),
  List.forall_mem_cons.mpr ⟨sd_oLdR_n 116 51 0 0 rfl (dk_116_0 (51, .aload_n 0, 1) (List.mem_of_getElem? (i := 29) rfl)),
  List.forall_mem_cons.mpr ⟨sd_oGetR 116 52 7 12 33 RX6 TX6 23 rfl ⟨by decide, by decide⟩ rfl (by decide) rfl (fun w h => iw_116 w (uz_6 w h)) rfl (iw_116 _ zw341) (dk_116_0 (52, .getfield 33, 3) (List.mem_of_getElem? (i := 30) rfl)),
  List.forall_mem_cons.mpr ⟨sd_oLdI_n 116 55 2 2 rfl (dk_116_0 (55, .iload_n 2, 1) (List.mem_of_getElem? (i := 31) rfl)),
  List.forall_mem_cons.mpr ⟨sd_iald 116 56 (dk_116_0 (56, .iaload, 1) (List.mem_of_getElem? (i := 32) rfl)),
  List.forall_mem_cons.mpr ⟨sd_iconst 116 57 1 ⟨by decide, by decide⟩ (dk_116_0 (57, .iconst 1, 1) (List.mem_of_getElem? (i := 33) rfl)),
  List.forall_mem_cons.mpr ⟨sd_icmp_ne 116 58 9 67 (by decide) (dk_116_0 (58, .if_icmp .ne 9, 3) (List.mem_of_getElem? (i := 34) rfl)),
  List.forall_mem_cons.mpr ⟨sd_oLdR_n 116 61 0 0 rfl (dk_116_0 (61, .aload_n 0, 1) (List.mem_of_getElem? (i := 35) rfl)),
  List.forall_mem_cons.mpr ⟨sd_iconst 116 62 2 ⟨by decide, by decide⟩ (dk_116_0 (62, .iconst 2, 1) (List.mem_of_getElem? (i := 36) rfl)),
  List.forall_mem_cons.mpr ⟨sd_callV 116 63 91 1 2 82 7 [] (gdV hws_116 hws_91 zw362 zw363 zw364 zw358 zw361) hws_91 rfl (by decide +kernel) rfl rfl ⟨by decide +kernel, by decide +kernel, by decide +kernel⟩ ⟨by decide, by decide⟩ (catch_nil rfl) RX6 rfl TX6 23 rfl ⟨by decide, by decide⟩ (dk_116_0 (63, .invokevirtual 82, 3) (List.mem_of_getElem? (i := 37) rfl)),
  fun _ h => nomatch h⟩⟩⟩⟩⟩⟩⟩⟩⟩⟩⟩⟩⟩⟩⟩⟩⟩⟩⟩⟩⟩⟩⟩⟩⟩⟩⟩⟩⟩⟩⟩⟩⟩⟩⟩⟩⟩⟩
def tb_116_1 : List (Nat × Op1) := [(66, oRetI), (67, oLdR 0 1), (68, oGetR 7 12), (71, oLdI 2 1), (72, oCI 1 1), (73, oAStI), (74, oCI 0 1), (75, oStI 3 1), (76, oLdI 2 1), (77, oStI 4 2), (79, oLdI 4 2), (81, oCI (-1) 1), (82, oCeq 128), (85, oLdR 0 1), (86, oGetR 7 12), (89, oLdI 4 2), (91, oALdI 10), (92, oCI 1 1), (93, oCne 128), (96, oLdR 0 1), (97, oLdI 4 2), (99, oCallV 115 1 4 7 []), (102, oZne 128), (105, oLdR 0 1), (106, oGetR 7 12), (109, oLdI 4 2), (111, oCI 2 1), (112, oAStI), (113, oInc 3 1), (116, oLdR 0 1), (117, oGetR 7 10), (120, oLdI 4 2), (122, oALdI 10), (123, oStI 4 2), (125, oGoto 79)]
theorem sm_116_1 : ∀ q ∈ tb_116_1, SM GwP MdP D A l 116 q.1 q.2 :=
  List.forall_mem_cons.mpr ⟨sd_iret 116 66 rfl (dk_116_0 (66, .ireturn, 1) (List.mem_of_getElem? (i := 38) rfl)),
  List.forall_mem_cons.mpr ⟨sd_oLdR_n 116 67 0 0 rfl (dk_116_0 (67, .aload_n 0, 1) (List.mem_of_getElem? (i := 39) rfl)),
  List.forall_mem_cons.mpr ⟨sd_oGetR 116 68 7 12 33 RX6 TX6 23 rfl ⟨by decide, by decide⟩ rfl (by decide) rfl (fun w h => iw_116 w (uz_6 w h)) rfl (iw_116 _ zw341) (dk_116_1 (68, .getfield 33, 3) (List.mem_of_getElem? (i := 0) rfl)),
  List.forall_mem_cons.mpr ⟨sd_oLdI_n 116 71 2 2 rfl (dk_116_1 (71, .iload_n 2, 1) (List.mem_of_getElem? (i := 1) rfl)),
  List.forall_mem_cons.mpr ⟨sd_iconst 116 72 1 ⟨by decide, by decide⟩ (dk_116_1 (72, .iconst 1, 1) (List.mem_of_getElem? (i := 2) rfl)),
  List.forall_mem_cons.mpr ⟨sd_iast 116 73 (dk_116_1 (73, .iastore, 1) (List.mem_of_getElem? (i := 3) rfl)),
  List.forall_mem_cons.mpr ⟨sd_iconst 116 74 0 ⟨by decide, by decide⟩ (dk_116_1 (74, .iconst 0, 1) (List.mem_of_getElem? (i := 4) rfl)),
  List.forall_mem_cons.mpr ⟨sd_oStI_n 116 75 3 3 rfl (by decide) (dk_116_1 (75, .istore_n 3, 1) (List.mem_of_getElem? (i := 5) rfl)),
  List.forall_mem_cons.mpr ⟨sd_oLdI_n 116 76 2 2 rfl (dk_116_1 (76, .iload_n 2, 1) (List.mem_of_getElem? (i := 6) rfl)),
  List.forall_mem_cons.mpr ⟨sd_oStI 116 77 4 (by decide) (dk_116_1 (77, .istore 4, 2) (List.mem_of_getElem? (i := 7) rfl)),
  List.forall_mem_cons.mpr ⟨sd_oLdI 116 79 4 (dk_116_1 (79, .iload 4, 2) (List.mem_of_getElem? (i := 8) rfl)),
  List.forall_mem_cons.mpr ⟨sd_iconst 116 81 (-1) ⟨by decide, by decide⟩ (dk_116_1 (81, .iconst (-1), 1) (List.mem_of_getElem? (i := 9) rfl)),
  List.forall_mem_cons.mpr ⟨sd_icmp_eq 116 82 46 128 (by decide) (dk_116_1 (82, .if_icmp .eq 46, 3) (List.mem_of_getElem? (i := 10) rfl)),
  List.forall_mem_cons.mpr ⟨sd_oLdR_n 116 85 0 0 rfl (dk_116_1 (85, .aload_n 0, 1) (List.mem_of_getElem? (i := 11) rfl)),
  List.forall_mem_cons.mpr ⟨sd_oGetR 116 86 7 12 33 RX6 TX6 23 rfl ⟨by decide, by decide⟩ rfl (by decide) rfl (fun w h => iw_116 w (uz_6 w h)) rfl (iw_116 _ zw341) (dk_116_1 (86, .getfield 33, 3) (List.mem_of_getElem? (i := 12) rfl)),
  List.forall_mem_cons.mpr ⟨sd_oLdI 116 89 4 (dk_116_1 (89, .iload 4, 2) (List.mem_of_getElem? (i := 13) rfl)),
  List.forall_mem_cons.mpr ⟨sd_iald 116 91 (dk_116_1 (91, .iaload, 1) (List.mem_of_getElem? (i := 14) rfl)),
  List.forall_mem_cons.mpr ⟨sd_iconst 116 92 1 ⟨by decide, by decide⟩ (dk_116_1 (92, .iconst 1, 1) (List.mem_of_getElem? (i := 15) rfl)),
  List.forall_mem_cons.mpr ⟨sd_icmp_ne 116 93 35 128 (by decide) (dk_116_1 (93, .if_icmp .ne 35, 3) (List.mem_of_getElem? (i := 16) rfl)),
  List.forall_mem_cons.mpr ⟨sd_oLdR_n 116 96 0 0 rfl (dk_116_1 (96, .aload_n 0, 1) (List.mem_of_getElem? (i := 17) rfl)),
  List.forall_mem_cons.mpr ⟨sd_oLdI 116 97 4 (dk_116_1 (97, .iload 4, 2) (List.mem_of_getElem? (i := 18) rfl)),
  List.forall_mem_cons.mpr ⟨sd_callV 116 99 115 1 4 143 7 [] (gdV hws_116 hws_115 zw414 zw415 zw416 zw358 zw413) hws_115 rfl (by decide +kernel) rfl rfl ⟨by decide +kernel, by decide +kernel, by decide +kernel⟩ ⟨by decide, by decide⟩ (catch_nil rfl) RX6 rfl TX6 23 rfl ⟨by decide, by decide⟩ (dk_116_1 (99, .invokevirtual 143, 3) (List.mem_of_getElem? (i := 19) rfl)),
  List.forall_mem_cons.mpr ⟨sd_if_ne 116 102 26 128 (by decide) (dk_116_1 (102, .ifCond .ne 26, 3) (List.mem_of_getElem? (i := 20) rfl)),
  List.forall_mem_cons.mpr ⟨sd_oLdR_n 116 105 0 0 rfl (dk_116_1 (105, .aload_n 0, 1) (List.mem_of_getElem? (i := 21) rfl)),
  List.forall_mem_cons.mpr ⟨sd_oGetR 116 106 7 12 33 RX6 TX6 23 rfl ⟨by decide, by decide⟩ rfl (by decide) rfl (fun w h => iw_116 w (uz_6 w h)) rfl (iw_116 _ zw341) (dk_116_1 (106, .getfield 33, 3) (List.mem_of_getElem? (i := 22) rfl)),
  List.forall_mem_cons.mpr ⟨sd_oLdI 116 109 4 (dk_116_1 (109, .iload 4, 2) (List.mem_of_getElem? (i := 23) rfl)),
  List.forall_mem_cons.mpr ⟨sd_iconst 116 111 2 ⟨by decide, by decide⟩ (dk_116_1 (111, .iconst 2, 1) (List.mem_of_getElem? (i := 24) rfl)),
  List.forall_mem_cons.mpr ⟨sd_iast 116 112 (dk_116_1 (112, .iastore, 1) (List.mem_of_getElem? (i := 25) rfl)),
  List.forall_mem_cons.mpr ⟨sd_iinc 116 113 3 1 (by decide) (dk_116_1 (113, .iinc 3 1, 3) (List.mem_of_getElem? (i := 26) rfl)),
  List.forall_mem_cons.mpr ⟨sd_oLdR_n 116 116 0 0 rfl (dk_116_1 (116, .aload_n 0, 1) (List.mem_of_getElem? (i := 27) rfl)),
  List.forall_mem_cons.mpr ⟨sd_oGetR 116 117 7 10 27 RX6 TX6 23 rfl ⟨by decide, by decide⟩ rfl (by decide) rfl (fun w h => iw_116 w (uz_6 w h)) rfl (iw_116 _ zw339) (dk_116_1 (117, .getfield 27, 3) (List.mem_of_getElem? (i := 28) rfl)),
  List.forall_mem_cons.mpr ⟨sd_oLdI 116 120 4 (dk_116_1 (120, .iload 4, 2) (List.mem_of_getElem? (i := 29) rfl)),
  List.forall_mem_cons.mpr ⟨sd_iald 116 122 (dk_116_1 (122, .iaload, 1) (List.mem_of_getElem? (i := 30) rfl)),
  List.forall_mem_cons.mpr ⟨sd_oStI 116 123 4 (by decide) (dk_116_1 (123, .istore 4, 2) (List.mem_of_getElem? (i := 31) rfl)),
  List.forall_mem_cons.mpr ⟨sd_goto 116 125 (-46) 79 (by decide) (dk_116_1 (125, .goto (-46), 3) (List.mem_of_getElem? (i := 32) rfl)),
  fun _ h => nomatch h⟩⟩⟩⟩⟩⟩⟩⟩⟩⟩⟩⟩⟩⟩⟩⟩⟩⟩⟩⟩⟩⟩⟩⟩⟩⟩⟩⟩⟩⟩⟩⟩⟩⟩⟩
def tb_116_2 : List (Nat × Op1) := [(128, oLdI 3 1), (129, oRetI)]
theorem sm_116_2 : ∀ q ∈ tb_116_2, SM GwP MdP D A l 116 q.1 q.2 :=
  List.forall_mem_cons.mpr ⟨sd_oLdI_n 116 128 3 3 rfl (dk_116_1 (128, .iload_n 3, 1) (List.mem_of_getElem? (i := 33) rfl)),
  List.forall_mem_cons.mpr ⟨sd_iret 116 129 rfl (dk_116_1 (129, .ireturn, 1) (List.mem_of_getElem? (i := 34) rfl)),
  fun _ h => nomatch h⟩⟩
def tb_116 : List (List (Nat × Op1)) := [tb_116_0, tb_116_1, tb_116_2]
theorem sm_116 : ∀ t ∈ tb_116, ∀ q ∈ t, SM GwP MdP D A l 116 q.1 q.2 := List.forall_mem_cons.mpr ⟨sm_116_0, List.forall_mem_cons.mpr ⟨sm_116_1, List.forall_mem_cons.mpr ⟨sm_116_2, fun _ h => nomatch h⟩⟩⟩
-- 117: MarginaliaModel.propose(IIII)I
def dl_117_0 : List (Nat × Instr × Nat) := [(0, .aload_n 0, 1), (1, .iconst 0, 1), (2, .putfield 65, 3), (5, .aload_n 0, 1), (6, .iload_n 1, 1), (7, .invokevirtual 86, 3), (10, .ifCond .eq 11, 3), (13, .aload_n 0, 1), (14, .iload_n 2, 1), (15, .invokevirtual 134, 3), (18, .ifCond .ne 9, 3), (21, .aload_n 0, 1), (22, .iconst 1, 1), (23, .invokevirtual 82, 3), (26, .ireturn, 1), (27, .aload_n 0, 1), (28, .getfield 30, 3), (31, .iload_n 2, 1), (32, .iaload, 1), (33, .iload_n 2, 1), (34, .if_icmp .ne 24, 3), (37, .iload_n 3, 1), (38, .iconst 0, 1), (39, .bipush 40, 2), (41, .invokestatic 72, 3), (44, .ifCond .eq 14, 3), (47, .iload 4, 2), (49, .iconst 0, 1), (50, .bipush 25, 2), (52, .invokestatic 72, 3), (55, .ifCond .ne 9, 3), (58, .aload_n 0, 1), (59, .iconst 2, 1), (60, .invokevirtual 82, 3), (63, .ireturn, 1), (64, .aload_n 0, 1), (65, .iload_n 1, 1), (66, .iload_n 2, 1), (67, .iconst 2, 1), (68, .invokevirtual 137, 3)]
theorem dk_117_0 : ∀ q ∈ dl_117_0, decode (mCod (MdP 117)) q.1 = .ok q.2 := by
  rw [show mCod (MdP 117) = cX6_propose from rfl]
  decide +kernel
def dl_117_1 : List (Nat × Instr × Nat) := [(71, .ifCond .eq 13, 3), (74, .aload_n 0, 1), (75, .getfield 33, 3), (78, .iload_n 2, 1), (79, .iaload, 1), (80, .iconst 1, 1), (81, .if_icmp .ne 9, 3), (84, .aload_n 0, 1), (85, .iconst 3, 1), (86, .invokevirtual 82, 3), (89, .ireturn, 1), (90, .aload_n 0, 1), (91, .getfield 45, 3), (94, .iload_n 2, 1), (95, .iload_n 3, 1), (96, .iastore, 1), (97, .aload_n 0, 1), (98, .getfield 48, 3), (101, .iload_n 2, 1), (102, .iload 4, 2), (104, .iastore, 1), (105, .iload_n 2, 1), (106, .ireturn, 1)]
theorem dk_117_1 : ∀ q ∈ dl_117_1, decode (mCod (MdP 117)) q.1 = .ok q.2 := by
  rw [show mCod (MdP 117) = cX6_propose from rfl]
  decide +kernel
def tb_117_0 : List (Nat × Op1) := [(0, oLdR 0 1), (1, oCI 0 1), (2, oPutI 7 0), (5, oLdR 0 1), (6, oLdI 1 1), (7, oCallV 95 1 2 7 []), (10, oZeq 21), (13, oLdR 0 1), (14, oLdI 2 1), (15, oCallV 96 1 2 7 []), (18, oZne 27), (21, oLdR 0 1), (22, oCI 1 1), (23, oCallV 91 1 2 7 []), (26, oRetI), (27, oLdR 0 1), (28, oGetR 7 11), (31, oLdI 2 1), (32, oALdI 10), (33, oLdI 2 1), (34, oCne 58), (37, oLdI 3 1), (38, oCI 0 1), (39, oCI 40 2), (41, oCallS 94 3 3 []), (44, oZeq 58), (47, oLdI 4 2), (49, oCI 0 1), (50, oCI 25 2), (52, oCallS 94 3 3 []), (55, oZne 64), (58, oLdR 0 1), (59, oCI 2 1), (60, oCallV 91 1 2 7 []), (63, oRetI)]
theorem sm_117_0 : ∀ q ∈ tb_117_0, SM GwP MdP D A l 117 q.1 q.2 :=
  List.forall_mem_cons.mpr ⟨sd_oLdR_n 117 0 0 0 rfl (dk_117_0 (0, .aload_n 0, 1) (List.mem_of_getElem? (i := 0) rfl)),
  List.forall_mem_cons.mpr ⟨sd_iconst 117 1 0 ⟨by decide, by decide⟩ (dk_117_0 (1, .iconst 0, 1) (List.mem_of_getElem? (i := 1) rfl)),
  List.forall_mem_cons.mpr ⟨sd_oPutI 117 2 7 0 65 RX6 TX6 23 rfl ⟨by decide, by decide⟩ rfl (by decide) rfl (fun w h => iw_117 w (uz_6 w h)) rfl tyX6 tyX6_ok nmX6 rfl rfl (iw_117 _ zw353) (dk_117_0 (2, .putfield 65, 3) (List.mem_of_getElem? (i := 2) rfl)),
  List.forall_mem_cons.mpr ⟨sd_oLdR_n 117 5 0 0 rfl (dk_117_0 (5, .aload_n 0, 1) (List.mem_of_getElem? (i := 3) rfl)),
  List.forall_mem_cons.mpr ⟨sd_oLdI_n 117 6 1 1 rfl (dk_117_0 (6, .iload_n 1, 1) (List.mem_of_getElem? (i := 4) rfl)),
  List.forall_mem_cons.mpr ⟨sd_callV 117 7 95 1 2 86 7 [] (gdV hws_117 hws_95 zw366 zw367 zw368 zw358 zw365) hws_95 rfl (by decide +kernel) rfl rfl ⟨by decide +kernel, by decide +kernel, by decide +kernel⟩ ⟨by decide, by decide⟩ (catch_nil rfl) RX6 rfl TX6 23 rfl ⟨by decide, by decide⟩ (dk_117_0 (7, .invokevirtual 86, 3) (List.mem_of_getElem? (i := 5) rfl)),
  List.forall_mem_cons.mpr ⟨sd_if_eq 117 10 11 21 (by decide) (dk_117_0 (10, .ifCond .eq 11, 3) (List.mem_of_getElem? (i := 6) rfl)),
  List.forall_mem_cons.mpr ⟨sd_oLdR_n 117 13 0 0 rfl (dk_117_0 (13, .aload_n 0, 1) (List.mem_of_getElem? (i := 7) rfl)),
  List.forall_mem_cons.mpr ⟨sd_oLdI_n 117 14 2 2 rfl (dk_117_0 (14, .iload_n 2, 1) (List.mem_of_getElem? (i := 8) rfl)),
  List.forall_mem_cons.mpr ⟨sd_callV 117 15 96 1 2 134 7 [] (gdV hws_117 hws_96 zw402 zw403 zw404 zw358 zw401) hws_96 rfl (by decide +kernel) rfl rfl ⟨by decide +kernel, by decide +kernel, by decide +kernel⟩ ⟨by decide, by decide⟩ (catch_nil rfl) RX6 rfl TX6 23 rfl ⟨by decide, by decide⟩ (dk_117_0 (15, .invokevirtual 134, 3) (List.mem_of_getElem? (i := 9) rfl)),
  List.forall_mem_cons.mpr ⟨sd_if_ne 117 18 9 27 (by decide) (dk_117_0 (18, .ifCond .ne 9, 3) (List.mem_of_getElem? (i := 10) rfl)),
  List.forall_mem_cons.mpr ⟨sd_oLdR_n 117 21 0 0 rfl (dk_117_0 (21, .aload_n 0, 1) (List.mem_of_getElem? (i := 11) rfl)),
  List.forall_mem_cons.mpr ⟨sd_iconst 117 22 1 ⟨by decide, by decide⟩ (dk_117_0 (22, .iconst 1, 1) (List.mem_of_getElem? (i := 12) rfl)),
  List.forall_mem_cons.mpr ⟨sd_callV 117 23 91 1 2 82 7 [] (gdV hws_117 hws_91 zw362 zw363 zw364 zw358 zw361) hws_91 rfl (by decide +kernel) rfl rfl ⟨by decide +kernel, by decide +kernel, by decide +kernel⟩ ⟨by decide, by decide⟩ (catch_nil rfl) RX6 rfl TX6 23 rfl ⟨by decide, by decide⟩ (dk_117_0 (23, .invokevirtual 82, 3) (List.mem_of_getElem? (i := 13) rfl)),
  List.forall_mem_cons.mpr ⟨sd_iret 117 26 rfl (dk_117_0 (26, .ireturn, 1) (List.mem_of_getElem? (i := 14) rfl)),
  List.forall_mem_cons.mpr ⟨sd_oLdR_n 117 27 0 0 rfl (dk_117_0 (27, .aload_n 0, 1) (List.mem_of_getElem? (i := 15) rfl)),
  List.forall_mem_cons.mpr ⟨sd_oGetR 117 28 7 11 30 RX6 TX6 23 rfl ⟨by decide, by decide⟩ rfl (by decide) rfl (fun w h => iw_117 w (uz_6 w h)) rfl (iw_117 _ zw340) (dk_117_0 (28, .getfield 30, 3) (List.mem_of_getElem? (i := 16) rfl)),
  List.forall_mem_cons.mpr ⟨sd_oLdI_n 117 31 2 2 rfl (dk_117_0 (31, .iload_n 2, 1) (List.mem_of_getElem? (i := 17) rfl)),
  List.forall_mem_cons.mpr ⟨sd_iald 117 32 (dk_117_0 (32, .iaload, 1) (List.mem_of_getElem? (i := 18) rfl)),
  List.forall_mem_cons.mpr ⟨sd_oLdI_n 117 33 2 2 rfl (dk_117_0 (33, .iload_n 2, 1) (List.mem_of_getElem? (i := 19) rfl)),
  List.forall_mem_cons.mpr ⟨sd_icmp_ne 117 34 24 58 (by decide) (dk_117_0 (34, .if_icmp .ne 24, 3) (List.mem_of_getElem? (i := 20) rfl)),
  List.forall_mem_cons.mpr ⟨sd_oLdI_n 117 37 3 3 rfl (dk_117_0 (37, .iload_n 3, 1) (List.mem_of_getElem? (i := 21) rfl)),
  List.forall_mem_cons.mpr ⟨sd_iconst 117 38 0 ⟨by decide, by decide⟩ (dk_117_0 (38, .iconst 0, 1) (List.mem_of_getElem? (i := 22) rfl)),
  List.forall_mem_cons.mpr ⟨sd_bipush 117 39 40 ⟨by decide, by decide⟩ (by decide) (dk_117_0 (39, .bipush 40, 2) (List.mem_of_getElem? (i := 23) rfl)),
  List.forall_mem_cons.mpr ⟨sd_callS 117 41 94 3 3 72 [] (gdS hws_117 hws_94 zw356 zw357 zw358 zw355) hws_94 rfl (by decide +kernel) rfl rfl ⟨by decide +kernel, by decide +kernel, by decide +kernel⟩ ⟨by decide, by decide⟩ (catch_nil rfl) (dk_117_0 (41, .invokestatic 72, 3) (List.mem_of_getElem? (i := 24) rfl)),
  List.forall_mem_cons.mpr ⟨sd_if_eq 117 44 14 58 (by decide) (dk_117_0 (44, .ifCond .eq 14, 3) (List.mem_of_getElem? (i := 25) rfl)),
  List.forall_mem_cons.mpr ⟨sd_oLdI 117 47 4 (dk_117_0 (47, .iload 4, 2) (List.mem_of_getElem? (i := 26) rfl)),
  List.forall_mem_cons.mpr ⟨sd_iconst 117 49 0 ⟨by decide, by decide⟩ (dk_117_0 (49, .iconst 0, 1) (List.mem_of_getElem? (i := 27) rfl)),
  List.forall_mem_cons.mpr ⟨sd_bipush 117 50 25 ⟨by decide, by decide⟩ (by decide) (dk_117_0 (50, .bipush 25, 2) (List.mem_of_getElem? (i := 28) rfl)),
  List.forall_mem_cons.mpr ⟨sd_callS 117 52 94 3 3 72 [] (gdS hws_117 hws_94 zw356 zw357 zw358 zw355) hws_94 rfl (by decide +kernel) rfl rfl ⟨by decide +kernel, by decide +kernel, by decide +kernel⟩ ⟨by decide, by decide⟩ (catch_nil rfl) (dk_117_0 (52, .invokestatic 72, 3) (List.mem_of_getElem? (i := 29) rfl)),
  List.forall_mem_cons.mpr ⟨sd_if_ne 117 55 9 64 (by decide) (dk_117_0 (55, .ifCond .ne 9, 3) (List.mem_of_getElem? (i := 30) rfl)),
  List.forall_mem_cons.mpr ⟨sd_oLdR_n 117 58 0 0 rfl (dk_117_0 (58, .aload_n 0, 1) (List.mem_of_getElem? (i := 31) rfl)),
  List.forall_mem_cons.mpr ⟨sd_iconst 117 59 2 ⟨by decide, by decide⟩ (dk_117_0 (59, .iconst 2, 1) (List.mem_of_getElem? (i := 32) rfl)),
  List.forall_mem_cons.mpr ⟨sd_callV 117 60 91 1 2 82 7 [] (gdV hws_117 hws_91 zw362 zw363 zw364 zw358 zw361) hws_91 rfl (by decide +kernel) rfl rfl ⟨by decide +kernel, by decide +kernel, by decide +kernel⟩ ⟨by decide, by decide⟩ (catch_nil rfl) RX6 rfl TX6 23 rfl ⟨by decide, by decide⟩ (dk_117_0 (60, .invokevirtual 82, 3) (List.mem_of_getElem? (i := 33) rfl)),
  List.forall_mem_cons.mpr ⟨sd_iret 117 63 rfl (dk_117_0 (63, .ireturn, 1) (List.mem_of_getElem? (i := 34) rfl)),
  fun _ h => nomatch h⟩⟩⟩⟩⟩⟩⟩⟩⟩⟩⟩⟩⟩⟩⟩⟩⟩⟩⟩⟩⟩⟩⟩⟩⟩⟩⟩⟩⟩⟩⟩⟩⟩⟩⟩
def tb_117_1 : List (Nat × Op1) := [(64, oLdR 0 1), (65, oLdI 1 1), (66, oLdI 2 1), (67, oCI 2 1), (68, oCallV 110 3 4 7 []), (71, oZeq 84), (74, oLdR 0 1), (75, oGetR 7 12), (78, oLdI 2 1), (79, oALdI 10), (80, oCI 1 1), (81, oCne 90), (84, oLdR 0 1), (85, oCI 3 1), (86, oCallV 91 1 2 7 []), (89, oRetI), (90, oLdR 0 1), (91, oGetR 7 16), (94, oLdI 2 1), (95, oLdI 3 1), (96, oAStI), (97, oLdR 0 1), (98, oGetR 7 17), (101, oLdI 2 1), (102, oLdI 4 2), (104, oAStI), (105, oLdI 2 1), (106, oRetI)]
theorem sm_117_1 : ∀ q ∈ tb_117_1, SM GwP MdP D A l 117 q.1 q.2 :=
  List.forall_mem_cons.mpr ⟨sd_oLdR_n 117 64 0 0 rfl (dk_117_0 (64, .aload_n 0, 1) (List.mem_of_getElem? (i := 35) rfl)),
  List.forall_mem_cons.mpr ⟨sd_oLdI_n 117 65 1 1 rfl (dk_117_0 (65, .iload_n 1, 1) (List.mem_of_getElem? (i := 36) rfl)),
  List.forall_mem_cons.mpr ⟨sd_oLdI_n 117 66 2 2 rfl (dk_117_0 (66, .iload_n 2, 1) (List.mem_of_getElem? (i := 37) rfl)),
  List.forall_mem_cons.mpr ⟨sd_iconst 117 67 2 ⟨by decide, by decide⟩ (dk_117_0 (67, .iconst 2, 1) (List.mem_of_getElem? (i := 38) rfl)),
  List.forall_mem_cons.mpr ⟨sd_callV 117 68 110 3 4 137 7 [] (gdV hws_117 hws_110 zw406 zw407 zw408 zw358 zw405) hws_110 rfl (by decide +kernel) rfl rfl ⟨by decide +kernel, by decide +kernel, by decide +kernel⟩ ⟨by decide, by decide⟩ (catch_nil rfl) RX6 rfl TX6 23 rfl ⟨by decide, by decide⟩ (dk_117_0 (68, .invokevirtual 137, 3) (List.mem_of_getElem? (i := 39) rfl)),
  List.forall_mem_cons.mpr ⟨sd_if_eq 117 71 13 84 (by decide) (dk_117_1 (71, .ifCond .eq 13, 3) (List.mem_of_getElem? (i := 0) rfl)),
  List.forall_mem_cons.mpr ⟨sd_oLdR_n 117 74 0 0 rfl (dk_117_1 (74, .aload_n 0, 1) (List.mem_of_getElem? (i := 1) rfl)),
  List.forall_mem_cons.mpr ⟨sd_oGetR 117 75 7 12 33 RX6 TX6 23 rfl ⟨by decide, by decide⟩ rfl (by decide) rfl (fun w h => iw_117 w (uz_6 w h)) rfl (iw_117 _ zw341) (dk_117_1 (75, .getfield 33, 3) (List.mem_of_getElem? (i := 2) rfl)),
  List.forall_mem_cons.mpr ⟨sd_oLdI_n 117 78 2 2 rfl (dk_117_1 (78, .iload_n 2, 1) (List.mem_of_getElem? (i := 3) rfl)),
  List.forall_mem_cons.mpr ⟨sd_iald 117 79 (dk_117_1 (79, .iaload, 1) (List.mem_of_getElem? (i := 4) rfl)),
  List.forall_mem_cons.mpr ⟨sd_iconst 117 80 1 ⟨by decide, by decide⟩ (dk_117_1 (80, .iconst 1, 1) (List.mem_of_getElem? (i := 5) rfl)),
  List.forall_mem_cons.mpr ⟨sd_icmp_ne 117 81 9 90 (by decide) (dk_117_1 (81, .if_icmp .ne 9, 3) (List.mem_of_getElem? (i := 6) rfl)),
  List.forall_mem_cons.mpr ⟨sd_oLdR_n 117 84 0 0 rfl (dk_117_1 (84, .aload_n 0, 1) (List.mem_of_getElem? (i := 7) rfl)),
  List.forall_mem_cons.mpr ⟨sd_iconst 117 85 3 ⟨by decide, by decide⟩ (dk_117_1 (85, .iconst 3, 1) (List.mem_of_getElem? (i := 8) rfl)),
  List.forall_mem_cons.mpr ⟨sd_callV 117 86 91 1 2 82 7 [] (gdV hws_117 hws_91 zw362 zw363 zw364 zw358 zw361) hws_91 rfl (by decide +kernel) rfl rfl ⟨by decide +kernel, by decide +kernel, by decide +kernel⟩ ⟨by decide, by decide⟩ (catch_nil rfl) RX6 rfl TX6 23 rfl ⟨by decide, by decide⟩ (dk_117_1 (86, .invokevirtual 82, 3) (List.mem_of_getElem? (i := 9) rfl)),
  List.forall_mem_cons.mpr ⟨sd_iret 117 89 rfl (dk_117_1 (89, .ireturn, 1) (List.mem_of_getElem? (i := 10) rfl)),
  List.forall_mem_cons.mpr ⟨sd_oLdR_n 117 90 0 0 rfl (dk_117_1 (90, .aload_n 0, 1) (List.mem_of_getElem? (i := 11) rfl)),
  List.forall_mem_cons.mpr ⟨sd_oGetR 117 91 7 16 45 RX6 TX6 23 rfl ⟨by decide, by decide⟩ rfl (by decide) rfl (fun w h => iw_117 w (uz_6 w h)) rfl (iw_117 _ zw345) (dk_117_1 (91, .getfield 45, 3) (List.mem_of_getElem? (i := 12) rfl)),
  List.forall_mem_cons.mpr ⟨sd_oLdI_n 117 94 2 2 rfl (dk_117_1 (94, .iload_n 2, 1) (List.mem_of_getElem? (i := 13) rfl)),
  List.forall_mem_cons.mpr ⟨sd_oLdI_n 117 95 3 3 rfl (dk_117_1 (95, .iload_n 3, 1) (List.mem_of_getElem? (i := 14) rfl)),
  List.forall_mem_cons.mpr ⟨sd_iast 117 96 (dk_117_1 (96, .iastore, 1) (List.mem_of_getElem? (i := 15) rfl)),
  List.forall_mem_cons.mpr ⟨sd_oLdR_n 117 97 0 0 rfl (dk_117_1 (97, .aload_n 0, 1) (List.mem_of_getElem? (i := 16) rfl)),
  List.forall_mem_cons.mpr ⟨sd_oGetR 117 98 7 17 48 RX6 TX6 23 rfl ⟨by decide, by decide⟩ rfl (by decide) rfl (fun w h => iw_117 w (uz_6 w h)) rfl (iw_117 _ zw346) (dk_117_1 (98, .getfield 48, 3) (List.mem_of_getElem? (i := 17) rfl)),
  List.forall_mem_cons.mpr ⟨sd_oLdI_n 117 101 2 2 rfl (dk_117_1 (101, .iload_n 2, 1) (List.mem_of_getElem? (i := 18) rfl)),
  List.forall_mem_cons.mpr ⟨sd_oLdI 117 102 4 (dk_117_1 (102, .iload 4, 2) (List.mem_of_getElem? (i := 19) rfl)),
  List.forall_mem_cons.mpr ⟨sd_iast 117 104 (dk_117_1 (104, .iastore, 1) (List.mem_of_getElem? (i := 20) rfl)),
  List.forall_mem_cons.mpr ⟨sd_oLdI_n 117 105 2 2 rfl (dk_117_1 (105, .iload_n 2, 1) (List.mem_of_getElem? (i := 21) rfl)),
  List.forall_mem_cons.mpr ⟨sd_iret 117 106 rfl (dk_117_1 (106, .ireturn, 1) (List.mem_of_getElem? (i := 22) rfl)),
  fun _ h => nomatch h⟩⟩⟩⟩⟩⟩⟩⟩⟩⟩⟩⟩⟩⟩⟩⟩⟩⟩⟩⟩⟩⟩⟩⟩⟩⟩⟩⟩
def tb_117 : List (List (Nat × Op1)) := [tb_117_0, tb_117_1]
theorem sm_117 : ∀ t ∈ tb_117, ∀ q ∈ t, SM GwP MdP D A l 117 q.1 q.2 := List.forall_mem_cons.mpr ⟨sm_117_0, List.forall_mem_cons.mpr ⟨sm_117_1, fun _ h => nomatch h⟩⟩
-- 118: MarginaliaModel.take(II)I
def dl_118_0 : List (Nat × Instr × Nat) := [(0, .aload_n 0, 1), (1, .iconst 0, 1), (2, .putfield 65, 3), (5, .aload_n 0, 1), (6, .iload_n 1, 1), (7, .invokevirtual 86, 3), (10, .ifCond .eq 11, 3), (13, .aload_n 0, 1), (14, .iload_n 2, 1), (15, .invokevirtual 134, 3), (18, .ifCond .ne 9, 3), (21, .aload_n 0, 1), (22, .iconst 1, 1), (23, .invokevirtual 82, 3), (26, .ireturn, 1), (27, .aload_n 0, 1), (28, .getfield 30, 3), (31, .iload_n 2, 1), (32, .iaload, 1), (33, .iload_n 2, 1), (34, .if_icmp .eq 9, 3), (37, .aload_n 0, 1), (38, .iconst 2, 1), (39, .invokevirtual 82, 3), (42, .ireturn, 1), (43, .aload_n 0, 1), (44, .getfield 45, 3), (47, .iload_n 2, 1), (48, .iaload, 1), (49, .istore_n 3, 1), (50, .aload_n 0, 1), (51, .getfield 36, 3), (54, .iload_n 2, 1), (55, .iaload, 1), (56, .istore 4, 2), (58, .aload_n 0, 1), (59, .getfield 39, 3), (62, .iload_n 2, 1), (63, .iaload, 1), (64, .iload 4, 2)]
theorem dk_118_0 : ∀ q ∈ dl_118_0, decode (mCod (MdP 118)) q.1 = .ok q.2 := by
  rw [show mCod (MdP 118) = cX6_take from rfl]
  decide +kernel
def dl_118_1 : List (Nat × Instr × Nat) := [(66, .isub, 1), (67, .istore 5, 2), (69, .aload_n 0, 1), (70, .iload_n 1, 1), (71, .iload_n 2, 1), (72, .iconst 3, 1), (73, .invokevirtual 137, 3), (76, .ifCond .eq 48, 3), (79, .iload_n 3, 1), (80, .iconst (-1), 1), (81, .if_icmp .eq 43, 3), (84, .iload 5, 2), (86, .ifCond .eq 38, 3), (89, .aload_n 0, 1), (90, .invokevirtual 90, 3), (93, .arraylength, 1), (94, .iload 5, 2), (96, .isub, 1), (97, .iload_n 3, 1), (98, .iadd, 1), (99, .sipush 200, 3), (102, .if_icmp .gt 22, 3), (105, .aload_n 0, 1), (106, .getfield 79, 3), (109, .iload_n 3, 1), (110, .ifCond .ne 7, 3), (113, .iconst 1, 1), (114, .goto 4, 3), (117, .iconst 2, 1), (118, .iadd, 1), (119, .bipush 60, 2), (121, .if_icmp .le 9, 3), (124, .aload_n 0, 1), (125, .iconst 3, 1), (126, .invokevirtual 82, 3), (129, .ireturn, 1), (130, .aload_n 0, 1), (131, .iload 4, 2), (133, .iload 5, 2), (135, .invokevirtual 116, 3)]
theorem dk_118_1 : ∀ q ∈ dl_118_1, decode (mCod (MdP 118)) q.1 = .ok q.2 := by
  rw [show mCod (MdP 118) = cX6_take from rfl]
  decide +kernel
def dl_118_2 : List (Nat × Instr × Nat) := [(138, .iload_n 3, 1), (139, .ifCond .le 16, 3), (142, .aload_n 0, 1), (143, .iload 4, 2), (145, .iload_n 3, 1), (146, .aload_n 0, 1), (147, .getfield 48, 3), (150, .iload_n 2, 1), (151, .iaload, 1), (152, .invokevirtual 112, 3), (155, .aload_n 0, 1), (156, .getfield 36, 3), (159, .iload_n 2, 1), (160, .iload 4, 2), (162, .iastore, 1), (163, .aload_n 0, 1), (164, .getfield 39, 3), (167, .iload_n 2, 1), (168, .iload 4, 2), (170, .iload_n 3, 1), (171, .iadd, 1), (172, .iastore, 1), (173, .aload_n 0, 1), (174, .getfield 51, 3), (177, .iload_n 2, 1), (178, .iconst 1, 1), (179, .bastore, 1), (180, .aload_n 0, 1), (181, .getfield 45, 3), (184, .iload_n 2, 1), (185, .iconst (-1), 1), (186, .iastore, 1), (187, .aload_n 0, 1), (188, .invokevirtual 90, 3), (191, .arraylength, 1), (192, .ireturn, 1)]
theorem dk_118_2 : ∀ q ∈ dl_118_2, decode (mCod (MdP 118)) q.1 = .ok q.2 := by
  rw [show mCod (MdP 118) = cX6_take from rfl]
  decide +kernel
def tb_118_0 : List (Nat × Op1) := [(0, oLdR 0 1), (1, oCI 0 1), (2, oPutI 7 0), (5, oLdR 0 1), (6, oLdI 1 1), (7, oCallV 95 1 2 7 []), (10, oZeq 21), (13, oLdR 0 1), (14, oLdI 2 1), (15, oCallV 96 1 2 7 []), (18, oZne 27), (21, oLdR 0 1), (22, oCI 1 1), (23, oCallV 91 1 2 7 []), (26, oRetI), (27, oLdR 0 1), (28, oGetR 7 11), (31, oLdI 2 1), (32, oALdI 10), (33, oLdI 2 1), (34, oCeq 43), (37, oLdR 0 1), (38, oCI 2 1), (39, oCallV 91 1 2 7 []), (42, oRetI), (43, oLdR 0 1), (44, oGetR 7 16), (47, oLdI 2 1), (48, oALdI 10), (49, oStI 3 1), (50, oLdR 0 1), (51, oGetR 7 13), (54, oLdI 2 1), (55, oALdI 10), (56, oStI 4 2), (58, oLdR 0 1), (59, oGetR 7 14), (62, oLdI 2 1), (63, oALdI 10)]
theorem sm_118_0 : ∀ q ∈ tb_118_0, SM GwP MdP D A l 118 q.1 q.2 :=
  List.forall_mem_cons.mpr ⟨sd_oLdR_n 118 0 0 0 rfl (dk_118_0 (0, .aload_n 0, 1) (List.mem_of_getElem? (i := 0) rfl)),
  List.forall_mem_cons.mpr ⟨sd_iconst 118 1 0 ⟨by decide, by decide⟩ (dk_118_0 (1, .iconst 0, 1) (List.mem_of_getElem? (i := 1) rfl)),
  List.forall_mem_cons.mpr ⟨sd_oPutI 118 2 7 0 65 RX6 TX6 23 rfl ⟨by decide, by decide⟩ rfl (by decide) rfl (fun w h => iw_118 w (uz_6 w h)) rfl tyX6 tyX6_ok nmX6 rfl rfl (iw_118 _ zw353) (dk_118_0 (2, .putfield 65, 3) (List.mem_of_getElem? (i := 2) rfl)),
  List.forall_mem_cons.mpr ⟨sd_oLdR_n 118 5 0 0 rfl (dk_118_0 (5, .aload_n 0, 1) (List.mem_of_getElem? (i := 3) rfl)),
  List.forall_mem_cons.mpr ⟨sd_oLdI_n 118 6 1 1 rfl (dk_118_0 (6, .iload_n 1, 1) (List.mem_of_getElem? (i := 4) rfl)),
  List.forall_mem_cons.mpr ⟨sd_callV 118 7 95 1 2 86 7 [] (gdV hws_118 hws_95 zw366 zw367 zw368 zw358 zw365) hws_95 rfl (by decide +kernel) rfl rfl ⟨by decide +kernel, by decide +kernel, by decide +kernel⟩ ⟨by decide, by decide⟩ (catch_nil rfl) RX6 rfl TX6 23 rfl ⟨by decide, by decide⟩ (dk_118_0 (7, .invokevirtual 86, 3) (List.mem_of_getElem? (i := 5) rfl)),
  List.forall_mem_cons.mpr ⟨sd_if_eq 118 10 11 21 (by decide) (dk_118_0 (10, .ifCond .eq 11, 3) (List.mem_of_getElem? (i := 6) rfl)),
  List.forall_mem_cons.mpr ⟨sd_oLdR_n 118 13 0 0 rfl (dk_118_0 (13, .aload_n 0, 1) (List.mem_of_getElem? (i := 7) rfl)),
  List.forall_mem_cons.mpr ⟨sd_oLdI_n 118 14 2 2 rfl (dk_118_0 (14, .iload_n 2, 1) (List.mem_of_getElem? (i := 8) rfl)),
  List.forall_mem_cons.mpr ⟨sd_callV 118 15 96 1 2 134 7 [] (gdV hws_118 hws_96 zw402 zw403 zw404 zw358 zw401) hws_96 rfl (by decide +kernel) rfl rfl ⟨by decide +kernel, by decide +kernel, by decide +kernel⟩ ⟨by decide, by decide⟩ (catch_nil rfl) RX6 rfl TX6 23 rfl ⟨by decide, by decide⟩ (dk_118_0 (15, .invokevirtual 134, 3) (List.mem_of_getElem? (i := 9) rfl)),
  List.forall_mem_cons.mpr ⟨sd_if_ne 118 18 9 27 (by decide) (dk_118_0 (18, .ifCond .ne 9, 3) (List.mem_of_getElem? (i := 10) rfl)),
  List.forall_mem_cons.mpr ⟨sd_oLdR_n 118 21 0 0 rfl (dk_118_0 (21, .aload_n 0, 1) (List.mem_of_getElem? (i := 11) rfl)),
  List.forall_mem_cons.mpr ⟨sd_iconst 118 22 1 ⟨by decide, by decide⟩ (dk_118_0 (22, .iconst 1, 1) (List.mem_of_getElem? (i := 12) rfl)),
  List.forall_mem_cons.mpr ⟨sd_callV 118 23 91 1 2 82 7 [] (gdV hws_118 hws_91 zw362 zw363 zw364 zw358 zw361) hws_91 rfl (by decide +kernel) rfl rfl ⟨by decide +kernel, by decide +kernel, by decide +kernel⟩ ⟨by decide, by decide⟩ (catch_nil rfl) RX6 rfl TX6 23 rfl ⟨by decide, by decide⟩ (dk_118_0 (23, .invokevirtual 82, 3) (List.mem_of_getElem? (i := 13) rfl)),
  List.forall_mem_cons.mpr ⟨sd_iret 118 26 rfl (dk_118_0 (26, .ireturn, 1) (List.mem_of_getElem? (i := 14) rfl)),
  List.forall_mem_cons.mpr ⟨sd_oLdR_n 118 27 0 0 rfl (dk_118_0 (27, .aload_n 0, 1) (List.mem_of_getElem? (i := 15) rfl)),
  List.forall_mem_cons.mpr ⟨sd_oGetR 118 28 7 11 30 RX6 TX6 23 rfl ⟨by decide, by decide⟩ rfl (by decide) rfl (fun w h => iw_118 w (uz_6 w h)) rfl (iw_118 _ zw340) (dk_118_0 (28, .getfield 30, 3) (List.mem_of_getElem? (i := 16) rfl)),
  List.forall_mem_cons.mpr ⟨sd_oLdI_n 118 31 2 2 rfl (dk_118_0 (31, .iload_n 2, 1) (List.mem_of_getElem? (i := 17) rfl)),
  List.forall_mem_cons.mpr ⟨sd_iald 118 32 (dk_118_0 (32, .iaload, 1) (List.mem_of_getElem? (i := 18) rfl)),
  List.forall_mem_cons.mpr ⟨sd_oLdI_n 118 33 2 2 rfl (dk_118_0 (33, .iload_n 2, 1) (List.mem_of_getElem? (i := 19) rfl)),
  List.forall_mem_cons.mpr ⟨sd_icmp_eq 118 34 9 43 (by decide) (dk_118_0 (34, .if_icmp .eq 9, 3) (List.mem_of_getElem? (i := 20) rfl)),
  List.forall_mem_cons.mpr ⟨sd_oLdR_n 118 37 0 0 rfl (dk_118_0 (37, .aload_n 0, 1) (List.mem_of_getElem? (i := 21) rfl)),
  List.forall_mem_cons.mpr ⟨sd_iconst 118 38 2 ⟨by decide, by decide⟩ (dk_118_0 (38, .iconst 2, 1) (List.mem_of_getElem? (i := 22) rfl)),
  List.forall_mem_cons.mpr ⟨sd_callV 118 39 91 1 2 82 7 [] (gdV hws_118 hws_91 zw362 zw363 zw364 zw358 zw361) hws_91 rfl (by decide +kernel) rfl rfl ⟨by decide +kernel, by decide +kernel, by decide +kernel⟩ ⟨by decide, by decide⟩ (catch_nil rfl) RX6 rfl TX6 23 rfl ⟨by decide, by decide⟩ (dk_118_0 (39, .invokevirtual 82, 3) (List.mem_of_getElem? (i := 23) rfl)),
  List.forall_mem_cons.mpr ⟨sd_iret 118 42 rfl (dk_118_0 (42, .ireturn, 1) (List.mem_of_getElem? (i := 24) rfl)),
  List.forall_mem_cons.mpr ⟨sd_oLdR_n 118 43 0 0 rfl (dk_118_0 (43, .aload_n 0, 1) (List.mem_of_getElem? (i := 25) rfl)),
  List.forall_mem_cons.mpr ⟨sd_oGetR 118 44 7 16 45 RX6 TX6 23 rfl ⟨by decide, by decide⟩ rfl (by decide) rfl (fun w h => iw_118 w (uz_6 w h)) rfl (iw_118 _ zw345) (dk_118_0 (44, .getfield 45, 3) (List.mem_of_getElem? (i := 26) rfl)),
  List.forall_mem_cons.mpr ⟨sd_oLdI_n 118 47 2 2 rfl (dk_118_0 (47, .iload_n 2, 1) (List.mem_of_getElem? (i := 27) rfl)),
  List.forall_mem_cons.mpr ⟨sd_iald 118 48 (dk_118_0 (48, .iaload, 1) (List.mem_of_getElem? (i := 28) rfl)),
  List.forall_mem_cons.mpr ⟨sd_oStI_n 118 49 3 3 rfl (by decide) (dk_118_0 (49, .istore_n 3, 1) (List.mem_of_getElem? (i := 29) rfl)),
  List.forall_mem_cons.mpr ⟨sd_oLdR_n 118 50 0 0 rfl (dk_118_0 (50, .aload_n 0, 1) (List.mem_of_getElem? (i := 30) rfl)),
  List.forall_mem_cons.mpr ⟨sd_oGetR 118 51 7 13 36 RX6 TX6 23 rfl ⟨by decide, by decide⟩ rfl (by decide) rfl (fun w h => iw_118 w (uz_6 w h)) rfl (iw_118 _ zw342) (dk_118_0 (51, .getfield 36, 3) (List.mem_of_getElem? (i := 31) rfl)),
  List.forall_mem_cons.mpr ⟨sd_oLdI_n 118 54 2 2 rfl (dk_118_0 (54, .iload_n 2, 1) (List.mem_of_getElem? (i := 32) rfl)),
  List.forall_mem_cons.mpr ⟨sd_iald 118 55 (dk_118_0 (55, .iaload, 1) (List.mem_of_getElem? (i := 33) rfl)),
  List.forall_mem_cons.mpr ⟨sd_oStI 118 56 4 (by decide) (dk_118_0 (56, .istore 4, 2) (List.mem_of_getElem? (i := 34) rfl)),
  List.forall_mem_cons.mpr ⟨sd_oLdR_n 118 58 0 0 rfl (dk_118_0 (58, .aload_n 0, 1) (List.mem_of_getElem? (i := 35) rfl)),
  List.forall_mem_cons.mpr ⟨sd_oGetR 118 59 7 14 39 RX6 TX6 23 rfl ⟨by decide, by decide⟩ rfl (by decide) rfl (fun w h => iw_118 w (uz_6 w h)) rfl (iw_118 _ zw343) (dk_118_0 (59, .getfield 39, 3) (List.mem_of_getElem? (i := 36) rfl)),
  List.forall_mem_cons.mpr ⟨sd_oLdI_n 118 62 2 2 rfl (dk_118_0 (62, .iload_n 2, 1) (List.mem_of_getElem? (i := 37) rfl)),
  List.forall_mem_cons.mpr ⟨sd_iald 118 63 (dk_118_0 (63, .iaload, 1) (List.mem_of_getElem? (i := 38) rfl)),
  fun _ h => nomatch h⟩⟩⟩⟩⟩⟩⟩⟩⟩⟩⟩⟩⟩⟩⟩⟩⟩⟩⟩⟩⟩⟩⟩⟩⟩⟩⟩⟩⟩⟩⟩⟩⟩⟩⟩⟩⟩⟩⟩
def tb_118_1 : List (Nat × Op1) := [(64, oLdI 4 2), (66, oSub), (67, oStI 5 2), (69, oLdR 0 1), (70, oLdI 1 1), (71, oLdI 2 1), (72, oCI 3 1), (73, oCallV 110 3 4 7 []), (76, oZeq 124), (79, oLdI 3 1), (80, oCI (-1) 1), (81, oCeq 124), (84, oLdI 5 2), (86, oZeq 124), (89, oLdR 0 1), (90, oCallV 97 0 1 7 []), (93, oALen 10), (94, oLdI 5 2), (96, oSub), (97, oLdI 3 1), (98, oAdd), (99, oCI 200 3), (102, oCgt 124), (105, oLdR 0 1), (106, oGetI 7 6), (109, oLdI 3 1), (110, oZne 117), (113, oCI 1 1), (114, oGoto 118), (117, oCI 2 1), (118, oAdd), (119, oCI 60 2), (121, oCle 130), (124, oLdR 0 1), (125, oCI 3 1), (126, oCallV 91 1 2 7 [])]
theorem sm_118_1 : ∀ q ∈ tb_118_1, SM GwP MdP D A l 118 q.1 q.2 :=
  List.forall_mem_cons.mpr ⟨sd_oLdI 118 64 4 (dk_118_0 (64, .iload 4, 2) (List.mem_of_getElem? (i := 39) rfl)),
  List.forall_mem_cons.mpr ⟨sd_isub 118 66 (dk_118_1 (66, .isub, 1) (List.mem_of_getElem? (i := 0) rfl)),
  List.forall_mem_cons.mpr ⟨sd_oStI 118 67 5 (by decide) (dk_118_1 (67, .istore 5, 2) (List.mem_of_getElem? (i := 1) rfl)),
  List.forall_mem_cons.mpr ⟨sd_oLdR_n 118 69 0 0 rfl (dk_118_1 (69, .aload_n 0, 1) (List.mem_of_getElem? (i := 2) rfl)),
  List.forall_mem_cons.mpr ⟨sd_oLdI_n 118 70 1 1 rfl (dk_118_1 (70, .iload_n 1, 1) (List.mem_of_getElem? (i := 3) rfl)),
  List.forall_mem_cons.mpr ⟨sd_oLdI_n 118 71 2 2 rfl (dk_118_1 (71, .iload_n 2, 1) (List.mem_of_getElem? (i := 4) rfl)),
  List.forall_mem_cons.mpr ⟨sd_iconst 118 72 3 ⟨by decide, by decide⟩ (dk_118_1 (72, .iconst 3, 1) (List.mem_of_getElem? (i := 5) rfl)),
  List.forall_mem_cons.mpr ⟨sd_callV 118 73 110 3 4 137 7 [] (gdV hws_118 hws_110 zw406 zw407 zw408 zw358 zw405) hws_110 rfl (by decide +kernel) rfl rfl ⟨by decide +kernel, by decide +kernel, by decide +kernel⟩ ⟨by decide, by decide⟩ (catch_nil rfl) RX6 rfl TX6 23 rfl ⟨by decide, by decide⟩ (dk_118_1 (73, .invokevirtual 137, 3) (List.mem_of_getElem? (i := 6) rfl)),
  List.forall_mem_cons.mpr ⟨sd_if_eq 118 76 48 124 (by decide) (dk_118_1 (76, .ifCond .eq 48, 3) (List.mem_of_getElem? (i := 7) rfl)),
  List.forall_mem_cons.mpr ⟨sd_oLdI_n 118 79 3 3 rfl (dk_118_1 (79, .iload_n 3, 1) (List.mem_of_getElem? (i := 8) rfl)),
  List.forall_mem_cons.mpr ⟨sd_iconst 118 80 (-1) ⟨by decide, by decide⟩ (dk_118_1 (80, .iconst (-1), 1) (List.mem_of_getElem? (i := 9) rfl)),
  List.forall_mem_cons.mpr ⟨sd_icmp_eq 118 81 43 124 (by decide) (dk_118_1 (81, .if_icmp .eq 43, 3) (List.mem_of_getElem? (i := 10) rfl)),
  List.forall_mem_cons.mpr ⟨sd_oLdI 118 84 5 (dk_118_1 (84, .iload 5, 2) (List.mem_of_getElem? (i := 11) rfl)),
  List.forall_mem_cons.mpr ⟨sd_if_eq 118 86 38 124 (by decide) (dk_118_1 (86, .ifCond .eq 38, 3) (List.mem_of_getElem? (i := 12) rfl)),
  List.forall_mem_cons.mpr ⟨sd_oLdR_n 118 89 0 0 rfl (dk_118_1 (89, .aload_n 0, 1) (List.mem_of_getElem? (i := 13) rfl)),
  List.forall_mem_cons.mpr ⟨sd_callV 118 90 97 0 1 90 7 [] (gdV hws_118 hws_97 zw370 zw371 zw372 zw358 zw369) hws_97 rfl (by decide +kernel) rfl rfl ⟨by decide +kernel, by decide +kernel, by decide +kernel⟩ ⟨by decide, by decide⟩ (catch_nil rfl) RX6 rfl TX6 23 rfl ⟨by decide, by decide⟩ (dk_118_1 (90, .invokevirtual 90, 3) (List.mem_of_getElem? (i := 14) rfl)),
  List.forall_mem_cons.mpr ⟨sd_alen 118 93 10 ⟨by decide, by decide⟩ (dk_118_1 (93, .arraylength, 1) (List.mem_of_getElem? (i := 15) rfl)),
  List.forall_mem_cons.mpr ⟨sd_oLdI 118 94 5 (dk_118_1 (94, .iload 5, 2) (List.mem_of_getElem? (i := 16) rfl)),
  List.forall_mem_cons.mpr ⟨sd_isub 118 96 (dk_118_1 (96, .isub, 1) (List.mem_of_getElem? (i := 17) rfl)),
  List.forall_mem_cons.mpr ⟨sd_oLdI_n 118 97 3 3 rfl (dk_118_1 (97, .iload_n 3, 1) (List.mem_of_getElem? (i := 18) rfl)),
  List.forall_mem_cons.mpr ⟨sd_iadd 118 98 (dk_118_1 (98, .iadd, 1) (List.mem_of_getElem? (i := 19) rfl)),
  List.forall_mem_cons.mpr ⟨sd_sipush 118 99 200 ⟨by decide, by decide⟩ (by decide) (dk_118_1 (99, .sipush 200, 3) (List.mem_of_getElem? (i := 20) rfl)),
  List.forall_mem_cons.mpr ⟨sd_icmp_gt 118 102 22 124 (by decide) (dk_118_1 (102, .if_icmp .gt 22, 3) (List.mem_of_getElem? (i := 21) rfl)),
  List.forall_mem_cons.mpr ⟨sd_oLdR_n 118 105 0 0 rfl (dk_118_1 (105, .aload_n 0, 1) (List.mem_of_getElem? (i := 22) rfl)),
  List.forall_mem_cons.mpr ⟨sd_oGetI 118 106 7 6 79 RX6 TX6 23 rfl ⟨by decide, by decide⟩ rfl (by decide) rfl (fun w h => iw_118 w (uz_6 w h)) rfl (iw_118 _ zw360) (dk_118_1 (106, .getfield 79, 3) (List.mem_of_getElem? (i := 23) rfl)),
  List.forall_mem_cons.mpr ⟨sd_oLdI_n 118 109 3 3 rfl (dk_118_1 (109, .iload_n 3, 1) (List.mem_of_getElem? (i := 24) rfl)),
  List.forall_mem_cons.mpr ⟨sd_if_ne 118 110 7 117 (by decide) (dk_118_1 (110, .ifCond .ne 7, 3) (List.mem_of_getElem? (i := 25) rfl)),
  List.forall_mem_cons.mpr ⟨sd_iconst 118 113 1 ⟨by decide, by decide⟩ (dk_118_1 (113, .iconst 1, 1) (List.mem_of_getElem? (i := 26) rfl)),
  List.forall_mem_cons.mpr ⟨sd_goto 118 114 4 118 (by decide) (dk_118_1 (114, .goto 4, 3) (List.mem_of_getElem? (i := 27) rfl)),
  List.forall_mem_cons.mpr ⟨sd_iconst 118 117 2 ⟨by decide, by decide⟩ (dk_118_1 (117, .iconst 2, 1) (List.mem_of_getElem? (i := 28) rfl)),
  List.forall_mem_cons.mpr ⟨sd_iadd 118 118 (dk_118_1 (118, .iadd, 1) (List.mem_of_getElem? (i := 29) rfl)),
  List.forall_mem_cons.mpr ⟨sd_bipush 118 119 60 ⟨by decide, by decide⟩ (by decide) (dk_118_1 (119, .bipush 60, 2) (List.mem_of_getElem? (i := 30) rfl)),
  List.forall_mem_cons.mpr ⟨sd_icmp_le 118 121 9 130 (by decide) (dk_118_1 (121, .if_icmp .le 9, 3) (List.mem_of_getElem? (i := 31) rfl)),
  List.forall_mem_cons.mpr ⟨sd_oLdR_n 118 124 0 0 rfl (dk_118_1 (124, .aload_n 0, 1) (List.mem_of_getElem? (i := 32) rfl)),
  List.forall_mem_cons.mpr ⟨sd_iconst 118 125 3 ⟨by decide, by decide⟩ (dk_118_1 (125, .iconst 3, 1) (List.mem_of_getElem? (i := 33) rfl)),
  List.forall_mem_cons.mpr ⟨sd_callV 118 126 91 1 2 82 7 [] (gdV hws_118 hws_91 zw362 zw363 zw364 zw358 zw361) hws_91 rfl (by decide +kernel) rfl rfl ⟨by decide +kernel, by decide +kernel, by decide +kernel⟩ ⟨by decide, by decide⟩ (catch_nil rfl) RX6 rfl TX6 23 rfl ⟨by decide, by decide⟩ (dk_118_1 (126, .invokevirtual 82, 3) (List.mem_of_getElem? (i := 34) rfl)),
  fun _ h => nomatch h⟩⟩⟩⟩⟩⟩⟩⟩⟩⟩⟩⟩⟩⟩⟩⟩⟩⟩⟩⟩⟩⟩⟩⟩⟩⟩⟩⟩⟩⟩⟩⟩⟩⟩⟩⟩
def tb_118_2 : List (Nat × Op1) := [(129, oRetI), (130, oLdR 0 1), (131, oLdI 4 2), (133, oLdI 5 2), (135, oCallV 101 2 6 7 []), (138, oLdI 3 1), (139, oZle 155), (142, oLdR 0 1), (143, oLdI 4 2), (145, oLdI 3 1), (146, oLdR 0 1), (147, oGetR 7 17), (150, oLdI 2 1), (151, oALdI 10), (152, oCallV 100 3 7 7 []), (155, oLdR 0 1), (156, oGetR 7 13), (159, oLdI 2 1), (160, oLdI 4 2), (162, oAStI), (163, oLdR 0 1), (164, oGetR 7 14), (167, oLdI 2 1), (168, oLdI 4 2), (170, oLdI 3 1), (171, oAdd), (172, oAStI), (173, oLdR 0 1), (174, oGetR 7 18), (177, oLdI 2 1), (178, oCI 1 1), (179, oAStZ), (180, oLdR 0 1), (181, oGetR 7 16), (184, oLdI 2 1), (185, oCI (-1) 1), (186, oAStI), (187, oLdR 0 1), (188, oCallV 97 0 1 7 []), (191, oALen 10)]
theorem sm_118_2 : ∀ q ∈ tb_118_2, SM GwP MdP D A l 118 q.1 q.2 :=
  List.forall_mem_cons.mpr ⟨sd_iret 118 129 rfl (dk_118_1 (129, .ireturn, 1) (List.mem_of_getElem? (i := 35) rfl)),
  List.forall_mem_cons.mpr ⟨sd_oLdR_n 118 130 0 0 rfl (dk_118_1 (130, .aload_n 0, 1) (List.mem_of_getElem? (i := 36) rfl)),
  List.forall_mem_cons.mpr ⟨sd_oLdI 118 131 4 (dk_118_1 (131, .iload 4, 2) (List.mem_of_getElem? (i := 37) rfl)),
  List.forall_mem_cons.mpr ⟨sd_oLdI 118 133 5 (dk_118_1 (133, .iload 5, 2) (List.mem_of_getElem? (i := 38) rfl)),
  List.forall_mem_cons.mpr ⟨sd_callV 118 135 101 2 6 116 7 [] (gdV hws_118 hws_101 zw382 zw383 zw384 zw358 zw381) hws_101 rfl (by decide +kernel) rfl rfl ⟨by decide +kernel, by decide +kernel, by decide +kernel⟩ ⟨by decide, by decide⟩ (catch_nil rfl) RX6 rfl TX6 23 rfl ⟨by decide, by decide⟩ (dk_118_1 (135, .invokevirtual 116, 3) (List.mem_of_getElem? (i := 39) rfl)),
  List.forall_mem_cons.mpr ⟨sd_oLdI_n 118 138 3 3 rfl (dk_118_2 (138, .iload_n 3, 1) (List.mem_of_getElem? (i := 0) rfl)),
  List.forall_mem_cons.mpr ⟨sd_if_le 118 139 16 155 (by decide) (dk_118_2 (139, .ifCond .le 16, 3) (List.mem_of_getElem? (i := 1) rfl)),
  List.forall_mem_cons.mpr ⟨sd_oLdR_n 118 142 0 0 rfl (dk_118_2 (142, .aload_n 0, 1) (List.mem_of_getElem? (i := 2) rfl)),
  List.forall_mem_cons.mpr ⟨sd_oLdI 118 143 4 (dk_118_2 (143, .iload 4, 2) (List.mem_of_getElem? (i := 3) rfl)),
  List.forall_mem_cons.mpr ⟨sd_oLdI_n 118 145 3 3 rfl (dk_118_2 (145, .iload_n 3, 1) (List.mem_of_getElem? (i := 4) rfl)),
  List.forall_mem_cons.mpr ⟨sd_oLdR_n 118 146 0 0 rfl (dk_118_2 (146, .aload_n 0, 1) (List.mem_of_getElem? (i := 5) rfl)),
  List.forall_mem_cons.mpr ⟨sd_oGetR 118 147 7 17 48 RX6 TX6 23 rfl ⟨by decide, by decide⟩ rfl (by decide) rfl (fun w h => iw_118 w (uz_6 w h)) rfl (iw_118 _ zw346) (dk_118_2 (147, .getfield 48, 3) (List.mem_of_getElem? (i := 6) rfl)),
  List.forall_mem_cons.mpr ⟨sd_oLdI_n 118 150 2 2 rfl (dk_118_2 (150, .iload_n 2, 1) (List.mem_of_getElem? (i := 7) rfl)),
  List.forall_mem_cons.mpr ⟨sd_iald 118 151 (dk_118_2 (151, .iaload, 1) (List.mem_of_getElem? (i := 8) rfl)),
  List.forall_mem_cons.mpr ⟨sd_callV 118 152 100 3 7 112 7 [] (gdV hws_118 hws_100 zw378 zw379 zw380 zw358 zw377) hws_100 rfl (by decide +kernel) rfl rfl ⟨by decide +kernel, by decide +kernel, by decide +kernel⟩ ⟨by decide, by decide⟩ (catch_nil rfl) RX6 rfl TX6 23 rfl ⟨by decide, by decide⟩ (dk_118_2 (152, .invokevirtual 112, 3) (List.mem_of_getElem? (i := 9) rfl)),
  List.forall_mem_cons.mpr ⟨sd_oLdR_n 118 155 0 0 rfl (dk_118_2 (155, .aload_n 0, 1) (List.mem_of_getElem? (i := 10) rfl)),
  List.forall_mem_cons.mpr ⟨sd_oGetR 118 156 7 13 36 RX6 TX6 23 rfl ⟨by decide, by decide⟩ rfl (by decide) rfl (fun w h => iw_118 w (uz_6 w h)) rfl (iw_118 _ zw342) (dk_118_2 (156, .getfield 36, 3) (List.mem_of_getElem? (i := 11) rfl)),
  List.forall_mem_cons.mpr ⟨sd_oLdI_n 118 159 2 2 rfl (dk_118_2 (159, .iload_n 2, 1) (List.mem_of_getElem? (i := 12) rfl)),
  List.forall_mem_cons.mpr ⟨sd_oLdI 118 160 4 (dk_118_2 (160, .iload 4, 2) (List.mem_of_getElem? (i := 13) rfl)),
  List.forall_mem_cons.mpr ⟨sd_iast 118 162 (dk_118_2 (162, .iastore, 1) (List.mem_of_getElem? (i := 14) rfl)),
  List.forall_mem_cons.mpr ⟨sd_oLdR_n 118 163 0 0 rfl (dk_118_2 (163, .aload_n 0, 1) (List.mem_of_getElem? (i := 15) rfl)),
  List.forall_mem_cons.mpr ⟨sd_oGetR 118 164 7 14 39 RX6 TX6 23 rfl ⟨by decide, by decide⟩ rfl (by decide) rfl (fun w h => iw_118 w (uz_6 w h)) rfl (iw_118 _ zw343) (dk_118_2 (164, .getfield 39, 3) (List.mem_of_getElem? (i := 16) rfl)),
  List.forall_mem_cons.mpr ⟨sd_oLdI_n 118 167 2 2 rfl (dk_118_2 (167, .iload_n 2, 1) (List.mem_of_getElem? (i := 17) rfl)),
  List.forall_mem_cons.mpr ⟨sd_oLdI 118 168 4 (dk_118_2 (168, .iload 4, 2) (List.mem_of_getElem? (i := 18) rfl)),
  List.forall_mem_cons.mpr ⟨sd_oLdI_n 118 170 3 3 rfl (dk_118_2 (170, .iload_n 3, 1) (List.mem_of_getElem? (i := 19) rfl)),
  List.forall_mem_cons.mpr ⟨sd_iadd 118 171 (dk_118_2 (171, .iadd, 1) (List.mem_of_getElem? (i := 20) rfl)),
  List.forall_mem_cons.mpr ⟨sd_iast 118 172 (dk_118_2 (172, .iastore, 1) (List.mem_of_getElem? (i := 21) rfl)),
  List.forall_mem_cons.mpr ⟨sd_oLdR_n 118 173 0 0 rfl (dk_118_2 (173, .aload_n 0, 1) (List.mem_of_getElem? (i := 22) rfl)),
  List.forall_mem_cons.mpr ⟨sd_oGetR 118 174 7 18 51 RX6 TX6 23 rfl ⟨by decide, by decide⟩ rfl (by decide) rfl (fun w h => iw_118 w (uz_6 w h)) rfl (iw_118 _ zw348) (dk_118_2 (174, .getfield 51, 3) (List.mem_of_getElem? (i := 23) rfl)),
  List.forall_mem_cons.mpr ⟨sd_oLdI_n 118 177 2 2 rfl (dk_118_2 (177, .iload_n 2, 1) (List.mem_of_getElem? (i := 24) rfl)),
  List.forall_mem_cons.mpr ⟨sd_iconst 118 178 1 ⟨by decide, by decide⟩ (dk_118_2 (178, .iconst 1, 1) (List.mem_of_getElem? (i := 25) rfl)),
  List.forall_mem_cons.mpr ⟨sd_zast 118 179 (dk_118_2 (179, .bastore, 1) (List.mem_of_getElem? (i := 26) rfl)),
  List.forall_mem_cons.mpr ⟨sd_oLdR_n 118 180 0 0 rfl (dk_118_2 (180, .aload_n 0, 1) (List.mem_of_getElem? (i := 27) rfl)),
  List.forall_mem_cons.mpr ⟨sd_oGetR 118 181 7 16 45 RX6 TX6 23 rfl ⟨by decide, by decide⟩ rfl (by decide) rfl (fun w h => iw_118 w (uz_6 w h)) rfl (iw_118 _ zw345) (dk_118_2 (181, .getfield 45, 3) (List.mem_of_getElem? (i := 28) rfl)),
  List.forall_mem_cons.mpr ⟨sd_oLdI_n 118 184 2 2 rfl (dk_118_2 (184, .iload_n 2, 1) (List.mem_of_getElem? (i := 29) rfl)),
  List.forall_mem_cons.mpr ⟨sd_iconst 118 185 (-1) ⟨by decide, by decide⟩ (dk_118_2 (185, .iconst (-1), 1) (List.mem_of_getElem? (i := 30) rfl)),
  List.forall_mem_cons.mpr ⟨sd_iast 118 186 (dk_118_2 (186, .iastore, 1) (List.mem_of_getElem? (i := 31) rfl)),
  List.forall_mem_cons.mpr ⟨sd_oLdR_n 118 187 0 0 rfl (dk_118_2 (187, .aload_n 0, 1) (List.mem_of_getElem? (i := 32) rfl)),
  List.forall_mem_cons.mpr ⟨sd_callV 118 188 97 0 1 90 7 [] (gdV hws_118 hws_97 zw370 zw371 zw372 zw358 zw369) hws_97 rfl (by decide +kernel) rfl rfl ⟨by decide +kernel, by decide +kernel, by decide +kernel⟩ ⟨by decide, by decide⟩ (catch_nil rfl) RX6 rfl TX6 23 rfl ⟨by decide, by decide⟩ (dk_118_2 (188, .invokevirtual 90, 3) (List.mem_of_getElem? (i := 33) rfl)),
  List.forall_mem_cons.mpr ⟨sd_alen 118 191 10 ⟨by decide, by decide⟩ (dk_118_2 (191, .arraylength, 1) (List.mem_of_getElem? (i := 34) rfl)),
  fun _ h => nomatch h⟩⟩⟩⟩⟩⟩⟩⟩⟩⟩⟩⟩⟩⟩⟩⟩⟩⟩⟩⟩⟩⟩⟩⟩⟩⟩⟩⟩⟩⟩⟩⟩⟩⟩⟩⟩⟩⟩⟩⟩
def tb_118_3 : List (Nat × Op1) := [(192, oRetI)]
theorem sm_118_3 : ∀ q ∈ tb_118_3, SM GwP MdP D A l 118 q.1 q.2 :=
  List.forall_mem_cons.mpr ⟨sd_iret 118 192 rfl (dk_118_2 (192, .ireturn, 1) (List.mem_of_getElem? (i := 35) rfl)),
  fun _ h => nomatch h⟩
def tb_118 : List (List (Nat × Op1)) := [tb_118_0, tb_118_1, tb_118_2, tb_118_3]
theorem sm_118 : ∀ t ∈ tb_118, ∀ q ∈ t, SM GwP MdP D A l 118 q.1 q.2 := List.forall_mem_cons.mpr ⟨sm_118_0, List.forall_mem_cons.mpr ⟨sm_118_1, List.forall_mem_cons.mpr ⟨sm_118_2, List.forall_mem_cons.mpr ⟨sm_118_3, fun _ h => nomatch h⟩⟩⟩⟩
-- 119: MarginaliaModel.found(I)I
def dl_119_0 : List (Nat × Instr × Nat) := [(0, .iconst (-1), 1), (1, .istore_n 2, 1), (2, .iconst 0, 1), (3, .istore_n 3, 1), (4, .iload_n 3, 1), (5, .aload_n 0, 1), (6, .getfield 56, 3), (9, .iload_n 1, 1), (10, .aaload, 1), (11, .arraylength, 1), (12, .iadd, 1), (13, .aload_n 0, 1), (14, .invokevirtual 90, 3), (17, .arraylength, 1), (18, .if_icmp .gt 106, 3), (21, .iconst 1, 1), (22, .istore 4, 2), (24, .iconst 0, 1), (25, .istore 5, 2), (27, .iload 5, 2), (29, .aload_n 0, 1), (30, .getfield 56, 3), (33, .iload_n 1, 1), (34, .aaload, 1), (35, .arraylength, 1), (36, .if_icmp .ge 45, 3), (39, .iload 4, 2), (41, .aload_n 0, 1), (42, .getfield 13, 3), (45, .aload_n 0, 1), (46, .invokevirtual 90, 3), (49, .iload_n 3, 1), (50, .iload 5, 2), (52, .iadd, 1), (53, .iaload, 1), (54, .iaload, 1), (55, .aload_n 0, 1), (56, .getfield 56, 3), (59, .iload_n 1, 1), (60, .aaload, 1)]
theorem dk_119_0 : ∀ q ∈ dl_119_0, decode (mCod (MdP 119)) q.1 = .ok q.2 := by
  rw [show mCod (MdP 119) = cX6_found from rfl]
  decide +kernel
def dl_119_1 : List (Nat × Instr × Nat) := [(61, .iload 5, 2), (63, .iaload, 1), (64, .if_icmp .ne 7, 3), (67, .iconst 1, 1), (68, .goto 4, 3), (71, .iconst 0, 1), (72, .iand, 1), (73, .istore 4, 2), (75, .iinc 5 1, 3), (78, .goto (-51), 3), (81, .iload 4, 2), (83, .ifCond .eq 35, 3), (86, .iload_n 2, 1), (87, .iconst (-1), 1), (88, .if_icmp .eq 28, 3), (91, .iload_n 3, 1), (92, .aload_n 0, 1), (93, .getfield 36, 3), (96, .iload_n 1, 1), (97, .iaload, 1), (98, .isub, 1), (99, .invokestatic 146, 3), (102, .iload_n 2, 1), (103, .aload_n 0, 1), (104, .getfield 36, 3), (107, .iload_n 1, 1), (108, .iaload, 1), (109, .isub, 1), (110, .invokestatic 146, 3), (113, .if_icmp .ge 5, 3), (116, .iload_n 3, 1), (117, .istore_n 2, 1), (118, .iinc 3 1, 3), (121, .goto (-117), 3), (124, .iload_n 2, 1), (125, .ireturn, 1)]
theorem dk_119_1 : ∀ q ∈ dl_119_1, decode (mCod (MdP 119)) q.1 = .ok q.2 := by
  rw [show mCod (MdP 119) = cX6_found from rfl]
  decide +kernel
def tb_119_0 : List (Nat × Op1) := [(0, oCI (-1) 1), (1, oStI 2 1), (2, oCI 0 1), (3, oStI 3 1), (4, oLdI 3 1), (5, oLdR 0 1), (6, oGetR 7 19), (9, oLdI 1 1), (10, oALdR 14), (11, oALen 10), (12, oAdd), (13, oLdR 0 1), (14, oCallV 97 0 1 7 []), (17, oALen 10), (18, oCgt 124), (21, oCI 1 1), (22, oStI 4 2), (24, oCI 0 1), (25, oStI 5 2), (27, oLdI 5 2), (29, oLdR 0 1), (30, oGetR 7 19), (33, oLdI 1 1), (34, oALdR 14), (35, oALen 10), (36, oCge 81), (39, oLdI 4 2), (41, oLdR 0 1), (42, oGetR 7 4), (45, oLdR 0 1), (46, oCallV 97 0 1 7 []), (49, oLdI 3 1), (50, oLdI 5 2), (52, oAdd), (53, oALdI 10), (54, oALdI 10), (55, oLdR 0 1), (56, oGetR 7 19), (59, oLdI 1 1), (60, oALdR 14), (61, oLdI 5 2), (63, oALdI 10)]
theorem sm_119_0 : ∀ q ∈ tb_119_0, SM GwP MdP D A l 119 q.1 q.2 :=
  List.forall_mem_cons.mpr ⟨sd_iconst 119 0 (-1) ⟨by decide, by decide⟩ (dk_119_0 (0, .iconst (-1), 1) (List.mem_of_getElem? (i := 0) rfl)),
  List.forall_mem_cons.mpr ⟨sd_oStI_n 119 1 2 2 rfl (by decide) (dk_119_0 (1, .istore_n 2, 1) (List.mem_of_getElem? (i := 1) rfl)),
  List.forall_mem_cons.mpr ⟨sd_iconst 119 2 0 ⟨by decide, by decide⟩ (dk_119_0 (2, .iconst 0, 1) (List.mem_of_getElem? (i := 2) rfl)),
  List.forall_mem_cons.mpr ⟨sd_oStI_n 119 3 3 3 rfl (by decide) (dk_119_0 (3, .istore_n 3, 1) (List.mem_of_getElem? (i := 3) rfl)),
  List.forall_mem_cons.mpr ⟨sd_oLdI_n 119 4 3 3 rfl (dk_119_0 (4, .iload_n 3, 1) (List.mem_of_getElem? (i := 4) rfl)),
  List.forall_mem_cons.mpr ⟨sd_oLdR_n 119 5 0 0 rfl (dk_119_0 (5, .aload_n 0, 1) (List.mem_of_getElem? (i := 5) rfl)),
  List.forall_mem_cons.mpr ⟨sd_oGetR 119 6 7 19 56 RX6 TX6 23 rfl ⟨by decide, by decide⟩ rfl (by decide) rfl (fun w h => iw_119 w (uz_6 w h)) rfl (iw_119 _ zw350) (dk_119_0 (6, .getfield 56, 3) (List.mem_of_getElem? (i := 6) rfl)),
  List.forall_mem_cons.mpr ⟨sd_oLdI_n 119 9 1 1 rfl (dk_119_0 (9, .iload_n 1, 1) (List.mem_of_getElem? (i := 7) rfl)),
  List.forall_mem_cons.mpr ⟨sd_aaldA 119 10 (dk_119_0 (10, .aaload, 1) (List.mem_of_getElem? (i := 8) rfl)),
  List.forall_mem_cons.mpr ⟨sd_alen 119 11 10 ⟨by decide, by decide⟩ (dk_119_0 (11, .arraylength, 1) (List.mem_of_getElem? (i := 9) rfl)),
  List.forall_mem_cons.mpr ⟨sd_iadd 119 12 (dk_119_0 (12, .iadd, 1) (List.mem_of_getElem? (i := 10) rfl)),
  List.forall_mem_cons.mpr ⟨sd_oLdR_n 119 13 0 0 rfl (dk_119_0 (13, .aload_n 0, 1) (List.mem_of_getElem? (i := 11) rfl)),
  List.forall_mem_cons.mpr ⟨sd_callV 119 14 97 0 1 90 7 [] (gdV hws_119 hws_97 zw370 zw371 zw372 zw358 zw369) hws_97 rfl (by decide +kernel) rfl rfl ⟨by decide +kernel, by decide +kernel, by decide +kernel⟩ ⟨by decide, by decide⟩ (catch_nil rfl) RX6 rfl TX6 23 rfl ⟨by decide, by decide⟩ (dk_119_0 (14, .invokevirtual 90, 3) (List.mem_of_getElem? (i := 12) rfl)),
  List.forall_mem_cons.mpr ⟨sd_alen 119 17 10 ⟨by decide, by decide⟩ (dk_119_0 (17, .arraylength, 1) (List.mem_of_getElem? (i := 13) rfl)),
  List.forall_mem_cons.mpr ⟨sd_icmp_gt 119 18 106 124 (by decide) (dk_119_0 (18, .if_icmp .gt 106, 3) (List.mem_of_getElem? (i := 14) rfl)),
  List.forall_mem_cons.mpr ⟨sd_iconst 119 21 1 ⟨by decide, by decide⟩ (dk_119_0 (21, .iconst 1, 1) (List.mem_of_getElem? (i := 15) rfl)),
  List.forall_mem_cons.mpr ⟨sd_oStI 119 22 4 (by decide) (dk_119_0 (22, .istore 4, 2) (List.mem_of_getElem? (i := 16) rfl)),
  List.forall_mem_cons.mpr ⟨sd_iconst 119 24 0 ⟨by decide, by decide⟩ (dk_119_0 (24, .iconst 0, 1) (List.mem_of_getElem? (i := 17) rfl)),
  List.forall_mem_cons.mpr ⟨sd_oStI 119 25 5 (by decide) (dk_119_0 (25, .istore 5, 2) (List.mem_of_getElem? (i := 18) rfl)),
  List.forall_mem_cons.mpr ⟨sd_oLdI 119 27 5 (dk_119_0 (27, .iload 5, 2) (List.mem_of_getElem? (i := 19) rfl)),
  List.forall_mem_cons.mpr ⟨sd_oLdR_n 119 29 0 0 rfl (dk_119_0 (29, .aload_n 0, 1) (List.mem_of_getElem? (i := 20) rfl)),
  List.forall_mem_cons.mpr ⟨sd_oGetR 119 30 7 19 56 RX6 TX6 23 rfl ⟨by decide, by decide⟩ rfl (by decide) rfl (fun w h => iw_119 w (uz_6 w h)) rfl (iw_119 _ zw350) (dk_119_0 (30, .getfield 56, 3) (List.mem_of_getElem? (i := 21) rfl)),
  List.forall_mem_cons.mpr ⟨sd_oLdI_n 119 33 1 1 rfl (dk_119_0 (33, .iload_n 1, 1) (List.mem_of_getElem? (i := 22) rfl)),
  List.forall_mem_cons.mpr ⟨sd_aaldA 119 34 (dk_119_0 (34, .aaload, 1) (List.mem_of_getElem? (i := 23) rfl)),
  List.forall_mem_cons.mpr ⟨sd_alen 119 35 10 ⟨by decide, by decide⟩ (dk_119_0 (35, .arraylength, 1) (List.mem_of_getElem? (i := 24) rfl)),
  List.forall_mem_cons.mpr ⟨sd_icmp_ge 119 36 45 81 (by decide) (dk_119_0 (36, .if_icmp .ge 45, 3) (List.mem_of_getElem? (i := 25) rfl)),
  List.forall_mem_cons.mpr ⟨sd_oLdI 119 39 4 (dk_119_0 (39, .iload 4, 2) (List.mem_of_getElem? (i := 26) rfl)),
  List.forall_mem_cons.mpr ⟨sd_oLdR_n 119 41 0 0 rfl (dk_119_0 (41, .aload_n 0, 1) (List.mem_of_getElem? (i := 27) rfl)),
  List.forall_mem_cons.mpr ⟨sd_oGetR 119 42 7 4 13 RX6 TX6 23 rfl ⟨by decide, by decide⟩ rfl (by decide) rfl (fun w h => iw_119 w (uz_6 w h)) rfl (iw_119 _ zw334) (dk_119_0 (42, .getfield 13, 3) (List.mem_of_getElem? (i := 28) rfl)),
  List.forall_mem_cons.mpr ⟨sd_oLdR_n 119 45 0 0 rfl (dk_119_0 (45, .aload_n 0, 1) (List.mem_of_getElem? (i := 29) rfl)),
  List.forall_mem_cons.mpr ⟨sd_callV 119 46 97 0 1 90 7 [] (gdV hws_119 hws_97 zw370 zw371 zw372 zw358 zw369) hws_97 rfl (by decide +kernel) rfl rfl ⟨by decide +kernel, by decide +kernel, by decide +kernel⟩ ⟨by decide, by decide⟩ (catch_nil rfl) RX6 rfl TX6 23 rfl ⟨by decide, by decide⟩ (dk_119_0 (46, .invokevirtual 90, 3) (List.mem_of_getElem? (i := 30) rfl)),
  List.forall_mem_cons.mpr ⟨sd_oLdI_n 119 49 3 3 rfl (dk_119_0 (49, .iload_n 3, 1) (List.mem_of_getElem? (i := 31) rfl)),
  List.forall_mem_cons.mpr ⟨sd_oLdI 119 50 5 (dk_119_0 (50, .iload 5, 2) (List.mem_of_getElem? (i := 32) rfl)),
  List.forall_mem_cons.mpr ⟨sd_iadd 119 52 (dk_119_0 (52, .iadd, 1) (List.mem_of_getElem? (i := 33) rfl)),
  List.forall_mem_cons.mpr ⟨sd_iald 119 53 (dk_119_0 (53, .iaload, 1) (List.mem_of_getElem? (i := 34) rfl)),
  List.forall_mem_cons.mpr ⟨sd_iald 119 54 (dk_119_0 (54, .iaload, 1) (List.mem_of_getElem? (i := 35) rfl)),
  List.forall_mem_cons.mpr ⟨sd_oLdR_n 119 55 0 0 rfl (dk_119_0 (55, .aload_n 0, 1) (List.mem_of_getElem? (i := 36) rfl)),
  List.forall_mem_cons.mpr ⟨sd_oGetR 119 56 7 19 56 RX6 TX6 23 rfl ⟨by decide, by decide⟩ rfl (by decide) rfl (fun w h => iw_119 w (uz_6 w h)) rfl (iw_119 _ zw350) (dk_119_0 (56, .getfield 56, 3) (List.mem_of_getElem? (i := 37) rfl)),
  List.forall_mem_cons.mpr ⟨sd_oLdI_n 119 59 1 1 rfl (dk_119_0 (59, .iload_n 1, 1) (List.mem_of_getElem? (i := 38) rfl)),
  List.forall_mem_cons.mpr ⟨sd_aaldA 119 60 (dk_119_0 (60, .aaload, 1) (List.mem_of_getElem? (i := 39) rfl)),
  List.forall_mem_cons.mpr ⟨sd_oLdI 119 61 5 (dk_119_1 (61, .iload 5, 2) (List.mem_of_getElem? (i := 0) rfl)),
  List.forall_mem_cons.mpr ⟨sd_iald 119 63 (dk_119_1 (63, .iaload, 1) (List.mem_of_getElem? (i := 1) rfl)),
  fun _ h => nomatch h⟩⟩⟩⟩⟩⟩⟩⟩⟩⟩⟩⟩⟩⟩⟩⟩⟩⟩⟩⟩⟩⟩⟩⟩⟩⟩⟩⟩⟩⟩⟩⟩⟩⟩⟩⟩⟩⟩⟩⟩⟩⟩
def tb_119_1 : List (Nat × Op1) := [(64, oCne 71), (67, oCI 1 1), (68, oGoto 72), (71, oCI 0 1), (72, oAnd), (73, oStI 4 2), (75, oInc 5 1), (78, oGoto 27), (81, oLdI 4 2), (83, oZeq 118), (86, oLdI 2 1), (87, oCI (-1) 1), (88, oCeq 116), (91, oLdI 3 1), (92, oLdR 0 1), (93, oGetR 7 13), (96, oLdI 1 1), (97, oALdI 10), (98, oSub), (99, oAbs), (102, oLdI 2 1), (103, oLdR 0 1), (104, oGetR 7 13), (107, oLdI 1 1), (108, oALdI 10), (109, oSub), (110, oAbs), (113, oCge 118), (116, oLdI 3 1), (117, oStI 2 1), (118, oInc 3 1), (121, oGoto 4), (124, oLdI 2 1), (125, oRetI)]
theorem sm_119_1 : ∀ q ∈ tb_119_1, SM GwP MdP D A l 119 q.1 q.2 :=
  List.forall_mem_cons.mpr ⟨sd_icmp_ne 119 64 7 71 (by decide) (dk_119_1 (64, .if_icmp .ne 7, 3) (List.mem_of_getElem? (i := 2) rfl)),
  List.forall_mem_cons.mpr ⟨sd_iconst 119 67 1 ⟨by decide, by decide⟩ (dk_119_1 (67, .iconst 1, 1) (List.mem_of_getElem? (i := 3) rfl)),
  List.forall_mem_cons.mpr ⟨sd_goto 119 68 4 72 (by decide) (dk_119_1 (68, .goto 4, 3) (List.mem_of_getElem? (i := 4) rfl)),
  List.forall_mem_cons.mpr ⟨sd_iconst 119 71 0 ⟨by decide, by decide⟩ (dk_119_1 (71, .iconst 0, 1) (List.mem_of_getElem? (i := 5) rfl)),
  List.forall_mem_cons.mpr ⟨sd_iand 119 72 (dk_119_1 (72, .iand, 1) (List.mem_of_getElem? (i := 6) rfl)),
  List.forall_mem_cons.mpr ⟨sd_oStI 119 73 4 (by decide) (dk_119_1 (73, .istore 4, 2) (List.mem_of_getElem? (i := 7) rfl)),
  List.forall_mem_cons.mpr ⟨sd_iinc 119 75 5 1 (by decide) (dk_119_1 (75, .iinc 5 1, 3) (List.mem_of_getElem? (i := 8) rfl)),
  List.forall_mem_cons.mpr ⟨sd_goto 119 78 (-51) 27 (by decide) (dk_119_1 (78, .goto (-51), 3) (List.mem_of_getElem? (i := 9) rfl)),
  List.forall_mem_cons.mpr ⟨sd_oLdI 119 81 4 (dk_119_1 (81, .iload 4, 2) (List.mem_of_getElem? (i := 10) rfl)),
  List.forall_mem_cons.mpr ⟨sd_if_eq 119 83 35 118 (by decide) (dk_119_1 (83, .ifCond .eq 35, 3) (List.mem_of_getElem? (i := 11) rfl)),
  List.forall_mem_cons.mpr ⟨sd_oLdI_n 119 86 2 2 rfl (dk_119_1 (86, .iload_n 2, 1) (List.mem_of_getElem? (i := 12) rfl)),
  List.forall_mem_cons.mpr ⟨sd_iconst 119 87 (-1) ⟨by decide, by decide⟩ (dk_119_1 (87, .iconst (-1), 1) (List.mem_of_getElem? (i := 13) rfl)),
  List.forall_mem_cons.mpr ⟨sd_icmp_eq 119 88 28 116 (by decide) (dk_119_1 (88, .if_icmp .eq 28, 3) (List.mem_of_getElem? (i := 14) rfl)),
  List.forall_mem_cons.mpr ⟨sd_oLdI_n 119 91 3 3 rfl (dk_119_1 (91, .iload_n 3, 1) (List.mem_of_getElem? (i := 15) rfl)),
  List.forall_mem_cons.mpr ⟨sd_oLdR_n 119 92 0 0 rfl (dk_119_1 (92, .aload_n 0, 1) (List.mem_of_getElem? (i := 16) rfl)),
  List.forall_mem_cons.mpr ⟨sd_oGetR 119 93 7 13 36 RX6 TX6 23 rfl ⟨by decide, by decide⟩ rfl (by decide) rfl (fun w h => iw_119 w (uz_6 w h)) rfl (iw_119 _ zw342) (dk_119_1 (93, .getfield 36, 3) (List.mem_of_getElem? (i := 17) rfl)),
  List.forall_mem_cons.mpr ⟨sd_oLdI_n 119 96 1 1 rfl (dk_119_1 (96, .iload_n 1, 1) (List.mem_of_getElem? (i := 18) rfl)),
  List.forall_mem_cons.mpr ⟨sd_iald 119 97 (dk_119_1 (97, .iaload, 1) (List.mem_of_getElem? (i := 19) rfl)),
  List.forall_mem_cons.mpr ⟨sd_isub 119 98 (dk_119_1 (98, .isub, 1) (List.mem_of_getElem? (i := 20) rfl)),
  List.forall_mem_cons.mpr ⟨sd_abs 119 99 146 (iw_119 _ zw417) (iw_119 _ zw418) (iw_119 _ zw15) (iw_119 _ zw419) (by decide) (by decide) (dk_119_1 (99, .invokestatic 146, 3) (List.mem_of_getElem? (i := 21) rfl)),
  List.forall_mem_cons.mpr ⟨sd_oLdI_n 119 102 2 2 rfl (dk_119_1 (102, .iload_n 2, 1) (List.mem_of_getElem? (i := 22) rfl)),
  List.forall_mem_cons.mpr ⟨sd_oLdR_n 119 103 0 0 rfl (dk_119_1 (103, .aload_n 0, 1) (List.mem_of_getElem? (i := 23) rfl)),
  List.forall_mem_cons.mpr ⟨sd_oGetR 119 104 7 13 36 RX6 TX6 23 rfl ⟨by decide, by decide⟩ rfl (by decide) rfl (fun w h => iw_119 w (uz_6 w h)) rfl (iw_119 _ zw342) (dk_119_1 (104, .getfield 36, 3) (List.mem_of_getElem? (i := 24) rfl)),
  List.forall_mem_cons.mpr ⟨sd_oLdI_n 119 107 1 1 rfl (dk_119_1 (107, .iload_n 1, 1) (List.mem_of_getElem? (i := 25) rfl)),
  List.forall_mem_cons.mpr ⟨sd_iald 119 108 (dk_119_1 (108, .iaload, 1) (List.mem_of_getElem? (i := 26) rfl)),
  List.forall_mem_cons.mpr ⟨sd_isub 119 109 (dk_119_1 (109, .isub, 1) (List.mem_of_getElem? (i := 27) rfl)),
  List.forall_mem_cons.mpr ⟨sd_abs 119 110 146 (iw_119 _ zw417) (iw_119 _ zw418) (iw_119 _ zw15) (iw_119 _ zw419) (by decide) (by decide) (dk_119_1 (110, .invokestatic 146, 3) (List.mem_of_getElem? (i := 28) rfl)),
  List.forall_mem_cons.mpr ⟨sd_icmp_ge 119 113 5 118 (by decide) (dk_119_1 (113, .if_icmp .ge 5, 3) (List.mem_of_getElem? (i := 29) rfl)),
  List.forall_mem_cons.mpr ⟨sd_oLdI_n 119 116 3 3 rfl (dk_119_1 (116, .iload_n 3, 1) (List.mem_of_getElem? (i := 30) rfl)),
  List.forall_mem_cons.mpr ⟨sd_oStI_n 119 117 2 2 rfl (by decide) (dk_119_1 (117, .istore_n 2, 1) (List.mem_of_getElem? (i := 31) rfl)),
  List.forall_mem_cons.mpr ⟨sd_iinc 119 118 3 1 (by decide) (dk_119_1 (118, .iinc 3 1, 3) (List.mem_of_getElem? (i := 32) rfl)),
  List.forall_mem_cons.mpr ⟨sd_goto 119 121 (-117) 4 (by decide) (dk_119_1 (121, .goto (-117), 3) (List.mem_of_getElem? (i := 33) rfl)),
  List.forall_mem_cons.mpr ⟨sd_oLdI_n 119 124 2 2 rfl (dk_119_1 (124, .iload_n 2, 1) (List.mem_of_getElem? (i := 34) rfl)),
  List.forall_mem_cons.mpr ⟨sd_iret 119 125 rfl (dk_119_1 (125, .ireturn, 1) (List.mem_of_getElem? (i := 35) rfl)),
  fun _ h => nomatch h⟩⟩⟩⟩⟩⟩⟩⟩⟩⟩⟩⟩⟩⟩⟩⟩⟩⟩⟩⟩⟩⟩⟩⟩⟩⟩⟩⟩⟩⟩⟩⟩⟩⟩
def tb_119 : List (List (Nat × Op1)) := [tb_119_0, tb_119_1]
theorem sm_119 : ∀ t ∈ tb_119, ∀ q ∈ t, SM GwP MdP D A l 119 q.1 q.2 := List.forall_mem_cons.mpr ⟨sm_119_0, List.forall_mem_cons.mpr ⟨sm_119_1, fun _ h => nomatch h⟩⟩
-- 120: MarginaliaModel.isHead(I)Z
def dl_120_0 : List (Nat × Instr × Nat) := [(0, .aload_n 0, 1), (1, .getfield 30, 3), (4, .iload_n 1, 1), (5, .iaload, 1), (6, .iload_n 1, 1), (7, .if_icmp .ne 17, 3), (10, .aload_n 0, 1), (11, .getfield 33, 3), (14, .iload_n 1, 1), (15, .iaload, 1), (16, .iconst 2, 1), (17, .if_icmp .eq 7, 3), (20, .iconst 1, 1), (21, .goto 4, 3), (24, .iconst 0, 1), (25, .ireturn, 1)]
theorem dk_120_0 : ∀ q ∈ dl_120_0, decode (mCod (MdP 120)) q.1 = .ok q.2 := by
  rw [show mCod (MdP 120) = cX6_isHead from rfl]
  decide +kernel
def tb_120_0 : List (Nat × Op1) := [(0, oLdR 0 1), (1, oGetR 7 11), (4, oLdI 1 1), (5, oALdI 10), (6, oLdI 1 1), (7, oCne 24), (10, oLdR 0 1), (11, oGetR 7 12), (14, oLdI 1 1), (15, oALdI 10), (16, oCI 2 1), (17, oCeq 24), (20, oCI 1 1), (21, oGoto 25), (24, oCI 0 1), (25, oRetZ)]
theorem sm_120_0 : ∀ q ∈ tb_120_0, SM GwP MdP D A l 120 q.1 q.2 :=
  List.forall_mem_cons.mpr ⟨sd_oLdR_n 120 0 0 0 rfl (dk_120_0 (0, .aload_n 0, 1) (List.mem_of_getElem? (i := 0) rfl)),
  List.forall_mem_cons.mpr ⟨sd_oGetR 120 1 7 11 30 RX6 TX6 23 rfl ⟨by decide, by decide⟩ rfl (by decide) rfl (fun w h => iw_120 w (uz_6 w h)) rfl (iw_120 _ zw340) (dk_120_0 (1, .getfield 30, 3) (List.mem_of_getElem? (i := 1) rfl)),
  List.forall_mem_cons.mpr ⟨sd_oLdI_n 120 4 1 1 rfl (dk_120_0 (4, .iload_n 1, 1) (List.mem_of_getElem? (i := 2) rfl)),
  List.forall_mem_cons.mpr ⟨sd_iald 120 5 (dk_120_0 (5, .iaload, 1) (List.mem_of_getElem? (i := 3) rfl)),
  List.forall_mem_cons.mpr ⟨sd_oLdI_n 120 6 1 1 rfl (dk_120_0 (6, .iload_n 1, 1) (List.mem_of_getElem? (i := 4) rfl)),
  List.forall_mem_cons.mpr ⟨sd_icmp_ne 120 7 17 24 (by decide) (dk_120_0 (7, .if_icmp .ne 17, 3) (List.mem_of_getElem? (i := 5) rfl)),
  List.forall_mem_cons.mpr ⟨sd_oLdR_n 120 10 0 0 rfl (dk_120_0 (10, .aload_n 0, 1) (List.mem_of_getElem? (i := 6) rfl)),
  List.forall_mem_cons.mpr ⟨sd_oGetR 120 11 7 12 33 RX6 TX6 23 rfl ⟨by decide, by decide⟩ rfl (by decide) rfl (fun w h => iw_120 w (uz_6 w h)) rfl (iw_120 _ zw341) (dk_120_0 (11, .getfield 33, 3) (List.mem_of_getElem? (i := 7) rfl)),
  List.forall_mem_cons.mpr ⟨sd_oLdI_n 120 14 1 1 rfl (dk_120_0 (14, .iload_n 1, 1) (List.mem_of_getElem? (i := 8) rfl)),
  List.forall_mem_cons.mpr ⟨sd_iald 120 15 (dk_120_0 (15, .iaload, 1) (List.mem_of_getElem? (i := 9) rfl)),
  List.forall_mem_cons.mpr ⟨sd_iconst 120 16 2 ⟨by decide, by decide⟩ (dk_120_0 (16, .iconst 2, 1) (List.mem_of_getElem? (i := 10) rfl)),
  List.forall_mem_cons.mpr ⟨sd_icmp_eq 120 17 7 24 (by decide) (dk_120_0 (17, .if_icmp .eq 7, 3) (List.mem_of_getElem? (i := 11) rfl)),
  List.forall_mem_cons.mpr ⟨sd_iconst 120 20 1 ⟨by decide, by decide⟩ (dk_120_0 (20, .iconst 1, 1) (List.mem_of_getElem? (i := 12) rfl)),
  List.forall_mem_cons.mpr ⟨sd_goto 120 21 4 25 (by decide) (dk_120_0 (21, .goto 4, 3) (List.mem_of_getElem? (i := 13) rfl)),
  List.forall_mem_cons.mpr ⟨sd_iconst 120 24 0 ⟨by decide, by decide⟩ (dk_120_0 (24, .iconst 0, 1) (List.mem_of_getElem? (i := 14) rfl)),
  List.forall_mem_cons.mpr ⟨sd_zret 120 25 rfl (dk_120_0 (25, .ireturn, 1) (List.mem_of_getElem? (i := 15) rfl)),
  fun _ h => nomatch h⟩⟩⟩⟩⟩⟩⟩⟩⟩⟩⟩⟩⟩⟩⟩⟩
def tb_120 : List (List (Nat × Op1)) := [tb_120_0]
theorem sm_120 : ∀ t ∈ tb_120, ∀ q ∈ t, SM GwP MdP D A l 120 q.1 q.2 := List.forall_mem_cons.mpr ⟨sm_120_0, fun _ h => nomatch h⟩
-- 121: MarginaliaModel.isLost(I)Z
def dl_121_0 : List (Nat × Instr × Nat) := [(0, .aload_n 0, 1), (1, .getfield 36, 3), (4, .iload_n 1, 1), (5, .iaload, 1), (6, .aload_n 0, 1), (7, .getfield 39, 3), (10, .iload_n 1, 1), (11, .iaload, 1), (12, .if_icmp .ne 7, 3), (15, .iconst 1, 1), (16, .goto 4, 3), (19, .iconst 0, 1), (20, .ireturn, 1)]
theorem dk_121_0 : ∀ q ∈ dl_121_0, decode (mCod (MdP 121)) q.1 = .ok q.2 := by
  rw [show mCod (MdP 121) = cX6_isLost from rfl]
  decide +kernel
def tb_121_0 : List (Nat × Op1) := [(0, oLdR 0 1), (1, oGetR 7 13), (4, oLdI 1 1), (5, oALdI 10), (6, oLdR 0 1), (7, oGetR 7 14), (10, oLdI 1 1), (11, oALdI 10), (12, oCne 19), (15, oCI 1 1), (16, oGoto 20), (19, oCI 0 1), (20, oRetZ)]
theorem sm_121_0 : ∀ q ∈ tb_121_0, SM GwP MdP D A l 121 q.1 q.2 :=
  List.forall_mem_cons.mpr ⟨sd_oLdR_n 121 0 0 0 rfl (dk_121_0 (0, .aload_n 0, 1) (List.mem_of_getElem? (i := 0) rfl)),
  List.forall_mem_cons.mpr ⟨sd_oGetR 121 1 7 13 36 RX6 TX6 23 rfl ⟨by decide, by decide⟩ rfl (by decide) rfl (fun w h => iw_121 w (uz_6 w h)) rfl (iw_121 _ zw342) (dk_121_0 (1, .getfield 36, 3) (List.mem_of_getElem? (i := 1) rfl)),
  List.forall_mem_cons.mpr ⟨sd_oLdI_n 121 4 1 1 rfl (dk_121_0 (4, .iload_n 1, 1) (List.mem_of_getElem? (i := 2) rfl)),
  List.forall_mem_cons.mpr ⟨sd_iald 121 5 (dk_121_0 (5, .iaload, 1) (List.mem_of_getElem? (i := 3) rfl)),
  List.forall_mem_cons.mpr ⟨sd_oLdR_n 121 6 0 0 rfl (dk_121_0 (6, .aload_n 0, 1) (List.mem_of_getElem? (i := 4) rfl)),
  List.forall_mem_cons.mpr ⟨sd_oGetR 121 7 7 14 39 RX6 TX6 23 rfl ⟨by decide, by decide⟩ rfl (by decide) rfl (fun w h => iw_121 w (uz_6 w h)) rfl (iw_121 _ zw343) (dk_121_0 (7, .getfield 39, 3) (List.mem_of_getElem? (i := 5) rfl)),
  List.forall_mem_cons.mpr ⟨sd_oLdI_n 121 10 1 1 rfl (dk_121_0 (10, .iload_n 1, 1) (List.mem_of_getElem? (i := 6) rfl)),
  List.forall_mem_cons.mpr ⟨sd_iald 121 11 (dk_121_0 (11, .iaload, 1) (List.mem_of_getElem? (i := 7) rfl)),
  List.forall_mem_cons.mpr ⟨sd_icmp_ne 121 12 7 19 (by decide) (dk_121_0 (12, .if_icmp .ne 7, 3) (List.mem_of_getElem? (i := 8) rfl)),
  List.forall_mem_cons.mpr ⟨sd_iconst 121 15 1 ⟨by decide, by decide⟩ (dk_121_0 (15, .iconst 1, 1) (List.mem_of_getElem? (i := 9) rfl)),
  List.forall_mem_cons.mpr ⟨sd_goto 121 16 4 20 (by decide) (dk_121_0 (16, .goto 4, 3) (List.mem_of_getElem? (i := 10) rfl)),
  List.forall_mem_cons.mpr ⟨sd_iconst 121 19 0 ⟨by decide, by decide⟩ (dk_121_0 (19, .iconst 0, 1) (List.mem_of_getElem? (i := 11) rfl)),
  List.forall_mem_cons.mpr ⟨sd_zret 121 20 rfl (dk_121_0 (20, .ireturn, 1) (List.mem_of_getElem? (i := 12) rfl)),
  fun _ h => nomatch h⟩⟩⟩⟩⟩⟩⟩⟩⟩⟩⟩⟩⟩
def tb_121 : List (List (Nat × Op1)) := [tb_121_0]
theorem sm_121 : ∀ t ∈ tb_121, ∀ q ∈ t, SM GwP MdP D A l 121 q.1 q.2 := List.forall_mem_cons.mpr ⟨sm_121_0, fun _ h => nomatch h⟩
-- 122: MarginaliaModel.heal()I
def dl_122_0 : List (Nat × Instr × Nat) := [(0, .aload_n 0, 1), (1, .iconst 0, 1), (2, .putfield 65, 3), (5, .iconst 0, 1), (6, .istore_n 1, 1), (7, .iconst 0, 1), (8, .istore_n 2, 1), (9, .iload_n 2, 1), (10, .aload_n 0, 1), (11, .getfield 76, 3), (14, .if_icmp .ge 71, 3), (17, .aload_n 0, 1), (18, .iload_n 2, 1), (19, .invokevirtual 149, 3), (22, .ifCond .eq 57, 3), (25, .aload_n 0, 1), (26, .iload_n 2, 1), (27, .invokevirtual 152, 3), (30, .ifCond .eq 49, 3), (33, .aload_n 0, 1), (34, .iload_n 2, 1), (35, .invokevirtual 155, 3), (38, .iconst (-1), 1), (39, .if_icmp .ne 6, 3), (42, .goto 37, 3), (45, .aload_n 0, 1), (46, .getfield 36, 3), (49, .iload_n 2, 1), (50, .aload_n 0, 1), (51, .iload_n 2, 1), (52, .invokevirtual 155, 3), (55, .iastore, 1), (56, .aload_n 0, 1), (57, .getfield 39, 3), (60, .iload_n 2, 1), (61, .aload_n 0, 1), (62, .getfield 36, 3), (65, .iload_n 2, 1), (66, .iaload, 1), (67, .aload_n 0, 1)]
theorem dk_122_0 : ∀ q ∈ dl_122_0, decode (mCod (MdP 122)) q.1 = .ok q.2 := by
  rw [show mCod (MdP 122) = cX6_heal from rfl]
  decide +kernel
def dl_122_1 : List (Nat × Instr × Nat) := [(68, .getfield 56, 3), (71, .iload_n 2, 1), (72, .aaload, 1), (73, .arraylength, 1), (74, .iadd, 1), (75, .iastore, 1), (76, .iinc 1 1, 3), (79, .iinc 2 1, 3), (82, .goto (-73), 3), (85, .iload_n 1, 1), (86, .ireturn, 1)]
theorem dk_122_1 : ∀ q ∈ dl_122_1, decode (mCod (MdP 122)) q.1 = .ok q.2 := by
  rw [show mCod (MdP 122) = cX6_heal from rfl]
  decide +kernel
def tb_122_0 : List (Nat × Op1) := [(0, oLdR 0 1), (1, oCI 0 1), (2, oPutI 7 0), (5, oCI 0 1), (6, oStI 1 1), (7, oCI 0 1), (8, oStI 2 1), (9, oLdI 2 1), (10, oLdR 0 1), (11, oGetI 7 7), (14, oCge 85), (17, oLdR 0 1), (18, oLdI 2 1), (19, oCallV 120 1 2 7 []), (22, oZeq 79), (25, oLdR 0 1), (26, oLdI 2 1), (27, oCallV 121 1 2 7 []), (30, oZeq 79), (33, oLdR 0 1), (34, oLdI 2 1), (35, oCallV 119 1 6 7 []), (38, oCI (-1) 1), (39, oCne 45), (42, oGoto 79), (45, oLdR 0 1), (46, oGetR 7 13), (49, oLdI 2 1), (50, oLdR 0 1), (51, oLdI 2 1), (52, oCallV 119 1 6 7 []), (55, oAStI), (56, oLdR 0 1), (57, oGetR 7 14), (60, oLdI 2 1), (61, oLdR 0 1), (62, oGetR 7 13)]
theorem sm_122_0 : ∀ q ∈ tb_122_0, SM GwP MdP D A l 122 q.1 q.2 :=
  List.forall_mem_cons.mpr ⟨sd_oLdR_n 122 0 0 0 rfl (dk_122_0 (0, .aload_n 0, 1) (List.mem_of_getElem? (i := 0) rfl)),
  List.forall_mem_cons.mpr ⟨sd_iconst 122 1 0 ⟨by decide, by decide⟩ (dk_122_0 (1, .iconst 0, 1) (List.mem_of_getElem? (i := 1) rfl)),
  List.forall_mem_cons.mpr ⟨sd_oPutI 122 2 7 0 65 RX6 TX6 23 rfl ⟨by decide, by decide⟩ rfl (by decide) rfl (fun w h => iw_122 w (uz_6 w h)) rfl tyX6 tyX6_ok nmX6 rfl rfl (iw_122 _ zw353) (dk_122_0 (2, .putfield 65, 3) (List.mem_of_getElem? (i := 2) rfl)),
  List.forall_mem_cons.mpr ⟨sd_iconst 122 5 0 ⟨by decide, by decide⟩ (dk_122_0 (5, .iconst 0, 1) (List.mem_of_getElem? (i := 3) rfl)),
  List.forall_mem_cons.mpr ⟨sd_oStI_n 122 6 1 1 rfl (by decide) (dk_122_0 (6, .istore_n 1, 1) (List.mem_of_getElem? (i := 4) rfl)),
  List.forall_mem_cons.mpr ⟨sd_iconst 122 7 0 ⟨by decide, by decide⟩ (dk_122_0 (7, .iconst 0, 1) (List.mem_of_getElem? (i := 5) rfl)),
  List.forall_mem_cons.mpr ⟨sd_oStI_n 122 8 2 2 rfl (by decide) (dk_122_0 (8, .istore_n 2, 1) (List.mem_of_getElem? (i := 6) rfl)),
  List.forall_mem_cons.mpr ⟨sd_oLdI_n 122 9 2 2 rfl (dk_122_0 (9, .iload_n 2, 1) (List.mem_of_getElem? (i := 7) rfl)),
  List.forall_mem_cons.mpr ⟨sd_oLdR_n 122 10 0 0 rfl (dk_122_0 (10, .aload_n 0, 1) (List.mem_of_getElem? (i := 8) rfl)),
  List.forall_mem_cons.mpr ⟨sd_oGetI 122 11 7 7 76 RX6 TX6 23 rfl ⟨by decide, by decide⟩ rfl (by decide) rfl (fun w h => iw_122 w (uz_6 w h)) rfl (iw_122 _ zw359) (dk_122_0 (11, .getfield 76, 3) (List.mem_of_getElem? (i := 9) rfl)),
  List.forall_mem_cons.mpr ⟨sd_icmp_ge 122 14 71 85 (by decide) (dk_122_0 (14, .if_icmp .ge 71, 3) (List.mem_of_getElem? (i := 10) rfl)),
  List.forall_mem_cons.mpr ⟨sd_oLdR_n 122 17 0 0 rfl (dk_122_0 (17, .aload_n 0, 1) (List.mem_of_getElem? (i := 11) rfl)),
  List.forall_mem_cons.mpr ⟨sd_oLdI_n 122 18 2 2 rfl (dk_122_0 (18, .iload_n 2, 1) (List.mem_of_getElem? (i := 12) rfl)),
  List.forall_mem_cons.mpr ⟨sd_callV 122 19 120 1 2 149 7 [] (gdV hws_122 hws_120 zw421 zw422 zw423 zw358 zw420) hws_120 rfl (by decide +kernel) rfl rfl ⟨by decide +kernel, by decide +kernel, by decide +kernel⟩ ⟨by decide, by decide⟩ (catch_nil rfl) RX6 rfl TX6 23 rfl ⟨by decide, by decide⟩ (dk_122_0 (19, .invokevirtual 149, 3) (List.mem_of_getElem? (i := 13) rfl)),
  List.forall_mem_cons.mpr ⟨sd_if_eq 122 22 57 79 (by decide) (dk_122_0 (22, .ifCond .eq 57, 3) (List.mem_of_getElem? (i := 14) rfl)),
  List.forall_mem_cons.mpr ⟨sd_oLdR_n 122 25 0 0 rfl (dk_122_0 (25, .aload_n 0, 1) (List.mem_of_getElem? (i := 15) rfl)),
  List.forall_mem_cons.mpr ⟨sd_oLdI_n 122 26 2 2 rfl (dk_122_0 (26, .iload_n 2, 1) (List.mem_of_getElem? (i := 16) rfl)),
  List.forall_mem_cons.mpr ⟨sd_callV 122 27 121 1 2 152 7 [] (gdV hws_122 hws_121 zw425 zw426 zw427 zw358 zw424) hws_121 rfl (by decide +kernel) rfl rfl ⟨by decide +kernel, by decide +kernel, by decide +kernel⟩ ⟨by decide, by decide⟩ (catch_nil rfl) RX6 rfl TX6 23 rfl ⟨by decide, by decide⟩ (dk_122_0 (27, .invokevirtual 152, 3) (List.mem_of_getElem? (i := 17) rfl)),
  List.forall_mem_cons.mpr ⟨sd_if_eq 122 30 49 79 (by decide) (dk_122_0 (30, .ifCond .eq 49, 3) (List.mem_of_getElem? (i := 18) rfl)),
  List.forall_mem_cons.mpr ⟨sd_oLdR_n 122 33 0 0 rfl (dk_122_0 (33, .aload_n 0, 1) (List.mem_of_getElem? (i := 19) rfl)),
  List.forall_mem_cons.mpr ⟨sd_oLdI_n 122 34 2 2 rfl (dk_122_0 (34, .iload_n 2, 1) (List.mem_of_getElem? (i := 20) rfl)),
  List.forall_mem_cons.mpr ⟨sd_callV 122 35 119 1 6 155 7 [] (gdV hws_122 hws_119 zw429 zw430 zw431 zw358 zw428) hws_119 rfl (by decide +kernel) rfl rfl ⟨by decide +kernel, by decide +kernel, by decide +kernel⟩ ⟨by decide, by decide⟩ (catch_nil rfl) RX6 rfl TX6 23 rfl ⟨by decide, by decide⟩ (dk_122_0 (35, .invokevirtual 155, 3) (List.mem_of_getElem? (i := 21) rfl)),
  List.forall_mem_cons.mpr ⟨sd_iconst 122 38 (-1) ⟨by decide, by decide⟩ (dk_122_0 (38, .iconst (-1), 1) (List.mem_of_getElem? (i := 22) rfl)),
  List.forall_mem_cons.mpr ⟨sd_icmp_ne 122 39 6 45 (by decide) (dk_122_0 (39, .if_icmp .ne 6, 3) (List.mem_of_getElem? (i := 23) rfl)),
  List.forall_mem_cons.mpr ⟨sd_goto 122 42 37 79 (by decide) (dk_122_0 (42, .goto 37, 3) (List.mem_of_getElem? (i := 24) rfl)),
  List.forall_mem_cons.mpr ⟨sd_oLdR_n 122 45 0 0 rfl (dk_122_0 (45, .aload_n 0, 1) (List.mem_of_getElem? (i := 25) rfl)),
  List.forall_mem_cons.mpr ⟨sd_oGetR 122 46 7 13 36 RX6 TX6 23 rfl ⟨by decide, by decide⟩ rfl (by decide) rfl (fun w h => iw_122 w (uz_6 w h)) rfl (iw_122 _ zw342) (dk_122_0 (46, .getfield 36, 3) (List.mem_of_getElem? (i := 26) rfl)),
  List.forall_mem_cons.mpr ⟨sd_oLdI_n 122 49 2 2 rfl (dk_122_0 (49, .iload_n 2, 1) (List.mem_of_getElem? (i := 27) rfl)),
  List.forall_mem_cons.mpr ⟨sd_oLdR_n 122 50 0 0 rfl (dk_122_0 (50, .aload_n 0, 1) (List.mem_of_getElem? (i := 28) rfl)),
  List.forall_mem_cons.mpr ⟨sd_oLdI_n 122 51 2 2 rfl (dk_122_0 (51, .iload_n 2, 1) (List.mem_of_getElem? (i := 29) rfl)),
  List.forall_mem_cons.mpr ⟨sd_callV 122 52 119 1 6 155 7 [] (gdV hws_122 hws_119 zw429 zw430 zw431 zw358 zw428) hws_119 rfl (by decide +kernel) rfl rfl ⟨by decide +kernel, by decide +kernel, by decide +kernel⟩ ⟨by decide, by decide⟩ (catch_nil rfl) RX6 rfl TX6 23 rfl ⟨by decide, by decide⟩ (dk_122_0 (52, .invokevirtual 155, 3) (List.mem_of_getElem? (i := 30) rfl)),
  List.forall_mem_cons.mpr ⟨sd_iast 122 55 (dk_122_0 (55, .iastore, 1) (List.mem_of_getElem? (i := 31) rfl)),
  List.forall_mem_cons.mpr ⟨sd_oLdR_n 122 56 0 0 rfl (dk_122_0 (56, .aload_n 0, 1) (List.mem_of_getElem? (i := 32) rfl)),
  List.forall_mem_cons.mpr ⟨sd_oGetR 122 57 7 14 39 RX6 TX6 23 rfl ⟨by decide, by decide⟩ rfl (by decide) rfl (fun w h => iw_122 w (uz_6 w h)) rfl (iw_122 _ zw343) (dk_122_0 (57, .getfield 39, 3) (List.mem_of_getElem? (i := 33) rfl)),
  List.forall_mem_cons.mpr ⟨sd_oLdI_n 122 60 2 2 rfl (dk_122_0 (60, .iload_n 2, 1) (List.mem_of_getElem? (i := 34) rfl)),
  List.forall_mem_cons.mpr ⟨sd_oLdR_n 122 61 0 0 rfl (dk_122_0 (61, .aload_n 0, 1) (List.mem_of_getElem? (i := 35) rfl)),
  List.forall_mem_cons.mpr ⟨sd_oGetR 122 62 7 13 36 RX6 TX6 23 rfl ⟨by decide, by decide⟩ rfl (by decide) rfl (fun w h => iw_122 w (uz_6 w h)) rfl (iw_122 _ zw342) (dk_122_0 (62, .getfield 36, 3) (List.mem_of_getElem? (i := 36) rfl)),
  fun _ h => nomatch h⟩⟩⟩⟩⟩⟩⟩⟩⟩⟩⟩⟩⟩⟩⟩⟩⟩⟩⟩⟩⟩⟩⟩⟩⟩⟩⟩⟩⟩⟩⟩⟩⟩⟩⟩⟩⟩
def tb_122_1 : List (Nat × Op1) := [(65, oLdI 2 1), (66, oALdI 10), (67, oLdR 0 1), (68, oGetR 7 19), (71, oLdI 2 1), (72, oALdR 14), (73, oALen 10), (74, oAdd), (75, oAStI), (76, oInc 1 1), (79, oInc 2 1), (82, oGoto 9), (85, oLdI 1 1), (86, oRetI)]
theorem sm_122_1 : ∀ q ∈ tb_122_1, SM GwP MdP D A l 122 q.1 q.2 :=
  List.forall_mem_cons.mpr ⟨sd_oLdI_n 122 65 2 2 rfl (dk_122_0 (65, .iload_n 2, 1) (List.mem_of_getElem? (i := 37) rfl)),
  List.forall_mem_cons.mpr ⟨sd_iald 122 66 (dk_122_0 (66, .iaload, 1) (List.mem_of_getElem? (i := 38) rfl)),
  List.forall_mem_cons.mpr ⟨sd_oLdR_n 122 67 0 0 rfl (dk_122_0 (67, .aload_n 0, 1) (List.mem_of_getElem? (i := 39) rfl)),
  List.forall_mem_cons.mpr ⟨sd_oGetR 122 68 7 19 56 RX6 TX6 23 rfl ⟨by decide, by decide⟩ rfl (by decide) rfl (fun w h => iw_122 w (uz_6 w h)) rfl (iw_122 _ zw350) (dk_122_1 (68, .getfield 56, 3) (List.mem_of_getElem? (i := 0) rfl)),
  List.forall_mem_cons.mpr ⟨sd_oLdI_n 122 71 2 2 rfl (dk_122_1 (71, .iload_n 2, 1) (List.mem_of_getElem? (i := 1) rfl)),
  List.forall_mem_cons.mpr ⟨sd_aaldA 122 72 (dk_122_1 (72, .aaload, 1) (List.mem_of_getElem? (i := 2) rfl)),
  List.forall_mem_cons.mpr ⟨sd_alen 122 73 10 ⟨by decide, by decide⟩ (dk_122_1 (73, .arraylength, 1) (List.mem_of_getElem? (i := 3) rfl)),
  List.forall_mem_cons.mpr ⟨sd_iadd 122 74 (dk_122_1 (74, .iadd, 1) (List.mem_of_getElem? (i := 4) rfl)),
  List.forall_mem_cons.mpr ⟨sd_iast 122 75 (dk_122_1 (75, .iastore, 1) (List.mem_of_getElem? (i := 5) rfl)),
  List.forall_mem_cons.mpr ⟨sd_iinc 122 76 1 1 (by decide) (dk_122_1 (76, .iinc 1 1, 3) (List.mem_of_getElem? (i := 6) rfl)),
  List.forall_mem_cons.mpr ⟨sd_iinc 122 79 2 1 (by decide) (dk_122_1 (79, .iinc 2 1, 3) (List.mem_of_getElem? (i := 7) rfl)),
  List.forall_mem_cons.mpr ⟨sd_goto 122 82 (-73) 9 (by decide) (dk_122_1 (82, .goto (-73), 3) (List.mem_of_getElem? (i := 8) rfl)),
  List.forall_mem_cons.mpr ⟨sd_oLdI_n 122 85 1 1 rfl (dk_122_1 (85, .iload_n 1, 1) (List.mem_of_getElem? (i := 9) rfl)),
  List.forall_mem_cons.mpr ⟨sd_iret 122 86 rfl (dk_122_1 (86, .ireturn, 1) (List.mem_of_getElem? (i := 10) rfl)),
  fun _ h => nomatch h⟩⟩⟩⟩⟩⟩⟩⟩⟩⟩⟩⟩⟩⟩
def tb_122 : List (List (Nat × Op1)) := [tb_122_0, tb_122_1]
theorem sm_122 : ∀ t ∈ tb_122, ∀ q ∈ t, SM GwP MdP D A l 122 q.1 q.2 := List.forall_mem_cons.mpr ⟨sm_122_0, List.forall_mem_cons.mpr ⟨sm_122_1, fun _ h => nomatch h⟩⟩
-- 123: MarginaliaModel.manyNow(I)I
def dl_123_0 : List (Nat × Instr × Nat) := [(0, .iload_n 1, 1), (1, .ifCond .ne 10, 3), (4, .aload_n 0, 1), (5, .getfield 69, 3), (8, .goto 4, 3), (11, .iconst 0, 1), (12, .istore_n 2, 1), (13, .iconst 0, 1), (14, .istore_n 3, 1), (15, .iload_n 3, 1), (16, .aload_n 0, 1), (17, .getfield 76, 3), (20, .if_icmp .ge 90, 3), (23, .iload_n 1, 1), (24, .ifCond .le 86, 3), (27, .aload_n 0, 1), (28, .getfield 33, 3), (31, .iload_n 3, 1), (32, .iaload, 1), (33, .iconst 2, 1), (34, .if_icmp .eq 54, 3), (37, .iload_n 1, 1), (38, .iconst 1, 1), (39, .if_icmp .eq 45, 3), (42, .aload_n 0, 1), (43, .getfield 30, 3), (46, .iload_n 3, 1), (47, .iaload, 1), (48, .iload_n 3, 1), (49, .if_icmp .ne 39, 3), (52, .iload_n 1, 1), (53, .iconst 2, 1), (54, .if_icmp .eq 30, 3), (57, .iload_n 1, 1), (58, .iconst 3, 1), (59, .if_icmp .ne 12, 3), (62, .aload_n 0, 1), (63, .getfield 51, 3), (66, .iload_n 3, 1), (67, .baload, 1)]
theorem dk_123_0 : ∀ q ∈ dl_123_0, decode (mCod (MdP 123)) q.1 = .ok q.2 := by
  rw [show mCod (MdP 123) = cX6_manyNow from rfl]
  decide +kernel
def dl_123_1 : List (Nat × Instr × Nat) := [(68, .ifCond .eq 16, 3), (71, .iload_n 1, 1), (72, .iconst 4, 1), (73, .if_icmp .ne 15, 3), (76, .aload_n 0, 1), (77, .iload_n 3, 1), (78, .invokevirtual 152, 3), (81, .ifCond .eq 7, 3), (84, .iconst 1, 1), (85, .goto 4, 3), (88, .iconst 0, 1), (89, .istore 4, 2), (91, .iload_n 2, 1), (92, .iload 4, 2), (94, .ifCond .eq 7, 3), (97, .iconst 1, 1), (98, .goto 4, 3), (101, .iconst 0, 1), (102, .iadd, 1), (103, .istore_n 2, 1), (104, .iinc 3 1, 3), (107, .goto (-92), 3), (110, .iload_n 2, 1), (111, .ireturn, 1)]
theorem dk_123_1 : ∀ q ∈ dl_123_1, decode (mCod (MdP 123)) q.1 = .ok q.2 := by
  rw [show mCod (MdP 123) = cX6_manyNow from rfl]
  decide +kernel
def tb_123_0 : List (Nat × Op1) := [(0, oLdI 1 1), (1, oZne 11), (4, oLdR 0 1), (5, oGetI 7 1), (8, oGoto 12), (11, oCI 0 1), (12, oStI 2 1), (13, oCI 0 1), (14, oStI 3 1), (15, oLdI 3 1), (16, oLdR 0 1), (17, oGetI 7 7), (20, oCge 110), (23, oLdI 1 1), (24, oZle 110), (27, oLdR 0 1), (28, oGetR 7 12), (31, oLdI 3 1), (32, oALdI 10), (33, oCI 2 1), (34, oCeq 88), (37, oLdI 1 1), (38, oCI 1 1), (39, oCeq 84), (42, oLdR 0 1), (43, oGetR 7 11), (46, oLdI 3 1), (47, oALdI 10), (48, oLdI 3 1), (49, oCne 88), (52, oLdI 1 1), (53, oCI 2 1), (54, oCeq 84), (57, oLdI 1 1), (58, oCI 3 1), (59, oCne 71), (62, oLdR 0 1), (63, oGetR 7 18)]
theorem sm_123_0 : ∀ q ∈ tb_123_0, SM GwP MdP D A l 123 q.1 q.2 :=
  List.forall_mem_cons.mpr ⟨sd_oLdI_n 123 0 1 1 rfl (dk_123_0 (0, .iload_n 1, 1) (List.mem_of_getElem? (i := 0) rfl)),
  List.forall_mem_cons.mpr ⟨sd_if_ne 123 1 10 11 (by decide) (dk_123_0 (1, .ifCond .ne 10, 3) (List.mem_of_getElem? (i := 1) rfl)),
  List.forall_mem_cons.mpr ⟨sd_oLdR_n 123 4 0 0 rfl (dk_123_0 (4, .aload_n 0, 1) (List.mem_of_getElem? (i := 2) rfl)),
  List.forall_mem_cons.mpr ⟨sd_oGetI 123 5 7 1 69 RX6 TX6 23 rfl ⟨by decide, by decide⟩ rfl (by decide) rfl (fun w h => iw_123 w (uz_6 w h)) rfl (iw_123 _ zw354) (dk_123_0 (5, .getfield 69, 3) (List.mem_of_getElem? (i := 3) rfl)),
  List.forall_mem_cons.mpr ⟨sd_goto 123 8 4 12 (by decide) (dk_123_0 (8, .goto 4, 3) (List.mem_of_getElem? (i := 4) rfl)),
  List.forall_mem_cons.mpr ⟨sd_iconst 123 11 0 ⟨by decide, by decide⟩ (dk_123_0 (11, .iconst 0, 1) (List.mem_of_getElem? (i := 5) rfl)),
  List.forall_mem_cons.mpr ⟨sd_oStI_n 123 12 2 2 rfl (by decide) (dk_123_0 (12, .istore_n 2, 1) (List.mem_of_getElem? (i := 6) rfl)),
  List.forall_mem_cons.mpr ⟨sd_iconst 123 13 0 ⟨by decide, by decide⟩ (dk_123_0 (13, .iconst 0, 1) (List.mem_of_getElem? (i := 7) rfl)),
  List.forall_mem_cons.mpr ⟨sd_oStI_n 123 14 3 3 rfl (by decide) (dk_123_0 (14, .istore_n 3, 1) (List.mem_of_getElem? (i := 8) rfl)),
  List.forall_mem_cons.mpr ⟨sd_oLdI_n 123 15 3 3 rfl (dk_123_0 (15, .iload_n 3, 1) (List.mem_of_getElem? (i := 9) rfl)),
  List.forall_mem_cons.mpr ⟨sd_oLdR_n 123 16 0 0 rfl (dk_123_0 (16, .aload_n 0, 1) (List.mem_of_getElem? (i := 10) rfl)),
  List.forall_mem_cons.mpr ⟨sd_oGetI 123 17 7 7 76 RX6 TX6 23 rfl ⟨by decide, by decide⟩ rfl (by decide) rfl (fun w h => iw_123 w (uz_6 w h)) rfl (iw_123 _ zw359) (dk_123_0 (17, .getfield 76, 3) (List.mem_of_getElem? (i := 11) rfl)),
  List.forall_mem_cons.mpr ⟨sd_icmp_ge 123 20 90 110 (by decide) (dk_123_0 (20, .if_icmp .ge 90, 3) (List.mem_of_getElem? (i := 12) rfl)),
  List.forall_mem_cons.mpr ⟨sd_oLdI_n 123 23 1 1 rfl (dk_123_0 (23, .iload_n 1, 1) (List.mem_of_getElem? (i := 13) rfl)),
  List.forall_mem_cons.mpr ⟨sd_if_le 123 24 86 110 (by decide) (dk_123_0 (24, .ifCond .le 86, 3) (List.mem_of_getElem? (i := 14) rfl)),
  List.forall_mem_cons.mpr ⟨sd_oLdR_n 123 27 0 0 rfl (dk_123_0 (27, .aload_n 0, 1) (List.mem_of_getElem? (i := 15) rfl)),
  List.forall_mem_cons.mpr ⟨sd_oGetR 123 28 7 12 33 RX6 TX6 23 rfl ⟨by decide, by decide⟩ rfl (by decide) rfl (fun w h => iw_123 w (uz_6 w h)) rfl (iw_123 _ zw341) (dk_123_0 (28, .getfield 33, 3) (List.mem_of_getElem? (i := 16) rfl)),
  List.forall_mem_cons.mpr ⟨sd_oLdI_n 123 31 3 3 rfl (dk_123_0 (31, .iload_n 3, 1) (List.mem_of_getElem? (i := 17) rfl)),
  List.forall_mem_cons.mpr ⟨sd_iald 123 32 (dk_123_0 (32, .iaload, 1) (List.mem_of_getElem? (i := 18) rfl)),
  List.forall_mem_cons.mpr ⟨sd_iconst 123 33 2 ⟨by decide, by decide⟩ (dk_123_0 (33, .iconst 2, 1) (List.mem_of_getElem? (i := 19) rfl)),
  List.forall_mem_cons.mpr ⟨sd_icmp_eq 123 34 54 88 (by decide) (dk_123_0 (34, .if_icmp .eq 54, 3) (List.mem_of_getElem? (i := 20) rfl)),
  List.forall_mem_cons.mpr ⟨sd_oLdI_n 123 37 1 1 rfl (dk_123_0 (37, .iload_n 1, 1) (List.mem_of_getElem? (i := 21) rfl)),
  List.forall_mem_cons.mpr ⟨sd_iconst 123 38 1 ⟨by decide, by decide⟩ (dk_123_0 (38, .iconst 1, 1) (List.mem_of_getElem? (i := 22) rfl)),
  List.forall_mem_cons.mpr ⟨sd_icmp_eq 123 39 45 84 (by decide) (dk_123_0 (39, .if_icmp .eq 45, 3) (List.mem_of_getElem? (i := 23) rfl)),
  List.forall_mem_cons.mpr ⟨sd_oLdR_n 123 42 0 0 rfl (dk_123_0 (42, .aload_n 0, 1) (List.mem_of_getElem? (i := 24) rfl)),
  List.forall_mem_cons.mpr ⟨sd_oGetR 123 43 7 11 30 RX6 TX6 23 rfl ⟨by decide, by decide⟩ rfl (by decide) rfl (fun w h => iw_123 w (uz_6 w h)) rfl (iw_123 _ zw340) (dk_123_0 (43, .getfield 30, 3) (List.mem_of_getElem? (i := 25) rfl)),
  List.forall_mem_cons.mpr ⟨sd_oLdI_n 123 46 3 3 rfl (dk_123_0 (46, .iload_n 3, 1) (List.mem_of_getElem? (i := 26) rfl)),
  List.forall_mem_cons.mpr ⟨sd_iald 123 47 (dk_123_0 (47, .iaload, 1) (List.mem_of_getElem? (i := 27) rfl)),
  List.forall_mem_cons.mpr ⟨sd_oLdI_n 123 48 3 3 rfl (dk_123_0 (48, .iload_n 3, 1) (List.mem_of_getElem? (i := 28) rfl)),
  List.forall_mem_cons.mpr ⟨sd_icmp_ne 123 49 39 88 (by decide) (dk_123_0 (49, .if_icmp .ne 39, 3) (List.mem_of_getElem? (i := 29) rfl)),
  List.forall_mem_cons.mpr ⟨sd_oLdI_n 123 52 1 1 rfl (dk_123_0 (52, .iload_n 1, 1) (List.mem_of_getElem? (i := 30) rfl)),
  List.forall_mem_cons.mpr ⟨sd_iconst 123 53 2 ⟨by decide, by decide⟩ (dk_123_0 (53, .iconst 2, 1) (List.mem_of_getElem? (i := 31) rfl)),
  List.forall_mem_cons.mpr ⟨sd_icmp_eq 123 54 30 84 (by decide) (dk_123_0 (54, .if_icmp .eq 30, 3) (List.mem_of_getElem? (i := 32) rfl)),
  List.forall_mem_cons.mpr ⟨sd_oLdI_n 123 57 1 1 rfl (dk_123_0 (57, .iload_n 1, 1) (List.mem_of_getElem? (i := 33) rfl)),
  List.forall_mem_cons.mpr ⟨sd_iconst 123 58 3 ⟨by decide, by decide⟩ (dk_123_0 (58, .iconst 3, 1) (List.mem_of_getElem? (i := 34) rfl)),
  List.forall_mem_cons.mpr ⟨sd_icmp_ne 123 59 12 71 (by decide) (dk_123_0 (59, .if_icmp .ne 12, 3) (List.mem_of_getElem? (i := 35) rfl)),
  List.forall_mem_cons.mpr ⟨sd_oLdR_n 123 62 0 0 rfl (dk_123_0 (62, .aload_n 0, 1) (List.mem_of_getElem? (i := 36) rfl)),
  List.forall_mem_cons.mpr ⟨sd_oGetR 123 63 7 18 51 RX6 TX6 23 rfl ⟨by decide, by decide⟩ rfl (by decide) rfl (fun w h => iw_123 w (uz_6 w h)) rfl (iw_123 _ zw348) (dk_123_0 (63, .getfield 51, 3) (List.mem_of_getElem? (i := 37) rfl)),
  fun _ h => nomatch h⟩⟩⟩⟩⟩⟩⟩⟩⟩⟩⟩⟩⟩⟩⟩⟩⟩⟩⟩⟩⟩⟩⟩⟩⟩⟩⟩⟩⟩⟩⟩⟩⟩⟩⟩⟩⟩⟩
def tb_123_1 : List (Nat × Op1) := [(66, oLdI 3 1), (67, oALdI 12), (68, oZeq 84), (71, oLdI 1 1), (72, oCI 4 1), (73, oCne 88), (76, oLdR 0 1), (77, oLdI 3 1), (78, oCallV 121 1 2 7 []), (81, oZeq 88), (84, oCI 1 1), (85, oGoto 89), (88, oCI 0 1), (89, oStI 4 2), (91, oLdI 2 1), (92, oLdI 4 2), (94, oZeq 101), (97, oCI 1 1), (98, oGoto 102), (101, oCI 0 1), (102, oAdd), (103, oStI 2 1), (104, oInc 3 1), (107, oGoto 15), (110, oLdI 2 1), (111, oRetI)]
theorem sm_123_1 : ∀ q ∈ tb_123_1, SM GwP MdP D A l 123 q.1 q.2 :=
  List.forall_mem_cons.mpr ⟨sd_oLdI_n 123 66 3 3 rfl (dk_123_0 (66, .iload_n 3, 1) (List.mem_of_getElem? (i := 38) rfl)),
  List.forall_mem_cons.mpr ⟨sd_zald 123 67 (dk_123_0 (67, .baload, 1) (List.mem_of_getElem? (i := 39) rfl)),
  List.forall_mem_cons.mpr ⟨sd_if_eq 123 68 16 84 (by decide) (dk_123_1 (68, .ifCond .eq 16, 3) (List.mem_of_getElem? (i := 0) rfl)),
  List.forall_mem_cons.mpr ⟨sd_oLdI_n 123 71 1 1 rfl (dk_123_1 (71, .iload_n 1, 1) (List.mem_of_getElem? (i := 1) rfl)),
  List.forall_mem_cons.mpr ⟨sd_iconst 123 72 4 ⟨by decide, by decide⟩ (dk_123_1 (72, .iconst 4, 1) (List.mem_of_getElem? (i := 2) rfl)),
  List.forall_mem_cons.mpr ⟨sd_icmp_ne 123 73 15 88 (by decide) (dk_123_1 (73, .if_icmp .ne 15, 3) (List.mem_of_getElem? (i := 3) rfl)),
  List.forall_mem_cons.mpr ⟨sd_oLdR_n 123 76 0 0 rfl (dk_123_1 (76, .aload_n 0, 1) (List.mem_of_getElem? (i := 4) rfl)),
  List.forall_mem_cons.mpr ⟨sd_oLdI_n 123 77 3 3 rfl (dk_123_1 (77, .iload_n 3, 1) (List.mem_of_getElem? (i := 5) rfl)),
  List.forall_mem_cons.mpr ⟨sd_callV 123 78 121 1 2 152 7 [] (gdV hws_123 hws_121 zw425 zw426 zw427 zw358 zw424) hws_121 rfl (by decide +kernel) rfl rfl ⟨by decide +kernel, by decide +kernel, by decide +kernel⟩ ⟨by decide, by decide⟩ (catch_nil rfl) RX6 rfl TX6 23 rfl ⟨by decide, by decide⟩ (dk_123_1 (78, .invokevirtual 152, 3) (List.mem_of_getElem? (i := 6) rfl)),
  List.forall_mem_cons.mpr ⟨sd_if_eq 123 81 7 88 (by decide) (dk_123_1 (81, .ifCond .eq 7, 3) (List.mem_of_getElem? (i := 7) rfl)),
  List.forall_mem_cons.mpr ⟨sd_iconst 123 84 1 ⟨by decide, by decide⟩ (dk_123_1 (84, .iconst 1, 1) (List.mem_of_getElem? (i := 8) rfl)),
  List.forall_mem_cons.mpr ⟨sd_goto 123 85 4 89 (by decide) (dk_123_1 (85, .goto 4, 3) (List.mem_of_getElem? (i := 9) rfl)),
  List.forall_mem_cons.mpr ⟨sd_iconst 123 88 0 ⟨by decide, by decide⟩ (dk_123_1 (88, .iconst 0, 1) (List.mem_of_getElem? (i := 10) rfl)),
  List.forall_mem_cons.mpr ⟨sd_oStI 123 89 4 (by decide) (dk_123_1 (89, .istore 4, 2) (List.mem_of_getElem? (i := 11) rfl)),
  List.forall_mem_cons.mpr ⟨sd_oLdI_n 123 91 2 2 rfl (dk_123_1 (91, .iload_n 2, 1) (List.mem_of_getElem? (i := 12) rfl)),
  List.forall_mem_cons.mpr ⟨sd_oLdI 123 92 4 (dk_123_1 (92, .iload 4, 2) (List.mem_of_getElem? (i := 13) rfl)),
  List.forall_mem_cons.mpr ⟨sd_if_eq 123 94 7 101 (by decide) (dk_123_1 (94, .ifCond .eq 7, 3) (List.mem_of_getElem? (i := 14) rfl)),
  List.forall_mem_cons.mpr ⟨sd_iconst 123 97 1 ⟨by decide, by decide⟩ (dk_123_1 (97, .iconst 1, 1) (List.mem_of_getElem? (i := 15) rfl)),
  List.forall_mem_cons.mpr ⟨sd_goto 123 98 4 102 (by decide) (dk_123_1 (98, .goto 4, 3) (List.mem_of_getElem? (i := 16) rfl)),
  List.forall_mem_cons.mpr ⟨sd_iconst 123 101 0 ⟨by decide, by decide⟩ (dk_123_1 (101, .iconst 0, 1) (List.mem_of_getElem? (i := 17) rfl)),
  List.forall_mem_cons.mpr ⟨sd_iadd 123 102 (dk_123_1 (102, .iadd, 1) (List.mem_of_getElem? (i := 18) rfl)),
  List.forall_mem_cons.mpr ⟨sd_oStI_n 123 103 2 2 rfl (by decide) (dk_123_1 (103, .istore_n 2, 1) (List.mem_of_getElem? (i := 19) rfl)),
  List.forall_mem_cons.mpr ⟨sd_iinc 123 104 3 1 (by decide) (dk_123_1 (104, .iinc 3 1, 3) (List.mem_of_getElem? (i := 20) rfl)),
  List.forall_mem_cons.mpr ⟨sd_goto 123 107 (-92) 15 (by decide) (dk_123_1 (107, .goto (-92), 3) (List.mem_of_getElem? (i := 21) rfl)),
  List.forall_mem_cons.mpr ⟨sd_oLdI_n 123 110 2 2 rfl (dk_123_1 (110, .iload_n 2, 1) (List.mem_of_getElem? (i := 22) rfl)),
  List.forall_mem_cons.mpr ⟨sd_iret 123 111 rfl (dk_123_1 (111, .ireturn, 1) (List.mem_of_getElem? (i := 23) rfl)),
  fun _ h => nomatch h⟩⟩⟩⟩⟩⟩⟩⟩⟩⟩⟩⟩⟩⟩⟩⟩⟩⟩⟩⟩⟩⟩⟩⟩⟩⟩
def tb_123 : List (List (Nat × Op1)) := [tb_123_0, tb_123_1]
theorem sm_123 : ∀ t ∈ tb_123, ∀ q ∈ t, SM GwP MdP D A l 123 q.1 q.2 := List.forall_mem_cons.mpr ⟨sm_123_0, List.forall_mem_cons.mpr ⟨sm_123_1, fun _ h => nomatch h⟩⟩
-- 124: MarginaliaModel.many(I)I
def dl_124_0 : List (Nat × Instr × Nat) := [(0, .aload_n 0, 1), (1, .iconst 0, 1), (2, .putfield 65, 3), (5, .iload_n 1, 1), (6, .iconst 0, 1), (7, .iconst 4, 1), (8, .invokestatic 72, 3), (11, .ifCond .eq 11, 3), (14, .aload_n 0, 1), (15, .iload_n 1, 1), (16, .invokevirtual 158, 3), (19, .goto 8, 3), (22, .aload_n 0, 1), (23, .iconst 1, 1), (24, .invokevirtual 82, 3), (27, .ireturn, 1)]
theorem dk_124_0 : ∀ q ∈ dl_124_0, decode (mCod (MdP 124)) q.1 = .ok q.2 := by
  rw [show mCod (MdP 124) = cX6_many from rfl]
  decide +kernel
def tb_124_0 : List (Nat × Op1) := [(0, oLdR 0 1), (1, oCI 0 1), (2, oPutI 7 0), (5, oLdI 1 1), (6, oCI 0 1), (7, oCI 4 1), (8, oCallS 94 3 3 []), (11, oZeq 22), (14, oLdR 0 1), (15, oLdI 1 1), (16, oCallV 123 1 5 7 []), (19, oGoto 27), (22, oLdR 0 1), (23, oCI 1 1), (24, oCallV 91 1 2 7 []), (27, oRetI)]
theorem sm_124_0 : ∀ q ∈ tb_124_0, SM GwP MdP D A l 124 q.1 q.2 :=
  List.forall_mem_cons.mpr ⟨sd_oLdR_n 124 0 0 0 rfl (dk_124_0 (0, .aload_n 0, 1) (List.mem_of_getElem? (i := 0) rfl)),
  List.forall_mem_cons.mpr ⟨sd_iconst 124 1 0 ⟨by decide, by decide⟩ (dk_124_0 (1, .iconst 0, 1) (List.mem_of_getElem? (i := 1) rfl)),
  List.forall_mem_cons.mpr ⟨sd_oPutI 124 2 7 0 65 RX6 TX6 23 rfl ⟨by decide, by decide⟩ rfl (by decide) rfl (fun w h => iw_124 w (uz_6 w h)) rfl tyX6 tyX6_ok nmX6 rfl rfl (iw_124 _ zw353) (dk_124_0 (2, .putfield 65, 3) (List.mem_of_getElem? (i := 2) rfl)),
  List.forall_mem_cons.mpr ⟨sd_oLdI_n 124 5 1 1 rfl (dk_124_0 (5, .iload_n 1, 1) (List.mem_of_getElem? (i := 3) rfl)),
  List.forall_mem_cons.mpr ⟨sd_iconst 124 6 0 ⟨by decide, by decide⟩ (dk_124_0 (6, .iconst 0, 1) (List.mem_of_getElem? (i := 4) rfl)),
  List.forall_mem_cons.mpr ⟨sd_iconst 124 7 4 ⟨by decide, by decide⟩ (dk_124_0 (7, .iconst 4, 1) (List.mem_of_getElem? (i := 5) rfl)),
  List.forall_mem_cons.mpr ⟨sd_callS 124 8 94 3 3 72 [] (gdS hws_124 hws_94 zw356 zw357 zw358 zw355) hws_94 rfl (by decide +kernel) rfl rfl ⟨by decide +kernel, by decide +kernel, by decide +kernel⟩ ⟨by decide, by decide⟩ (catch_nil rfl) (dk_124_0 (8, .invokestatic 72, 3) (List.mem_of_getElem? (i := 6) rfl)),
  List.forall_mem_cons.mpr ⟨sd_if_eq 124 11 11 22 (by decide) (dk_124_0 (11, .ifCond .eq 11, 3) (List.mem_of_getElem? (i := 7) rfl)),
  List.forall_mem_cons.mpr ⟨sd_oLdR_n 124 14 0 0 rfl (dk_124_0 (14, .aload_n 0, 1) (List.mem_of_getElem? (i := 8) rfl)),
  List.forall_mem_cons.mpr ⟨sd_oLdI_n 124 15 1 1 rfl (dk_124_0 (15, .iload_n 1, 1) (List.mem_of_getElem? (i := 9) rfl)),
  List.forall_mem_cons.mpr ⟨sd_callV 124 16 123 1 5 158 7 [] (gdV hws_124 hws_123 zw433 zw434 zw435 zw358 zw432) hws_123 rfl (by decide +kernel) rfl rfl ⟨by decide +kernel, by decide +kernel, by decide +kernel⟩ ⟨by decide, by decide⟩ (catch_nil rfl) RX6 rfl TX6 23 rfl ⟨by decide, by decide⟩ (dk_124_0 (16, .invokevirtual 158, 3) (List.mem_of_getElem? (i := 10) rfl)),
  List.forall_mem_cons.mpr ⟨sd_goto 124 19 8 27 (by decide) (dk_124_0 (19, .goto 8, 3) (List.mem_of_getElem? (i := 11) rfl)),
  List.forall_mem_cons.mpr ⟨sd_oLdR_n 124 22 0 0 rfl (dk_124_0 (22, .aload_n 0, 1) (List.mem_of_getElem? (i := 12) rfl)),
  List.forall_mem_cons.mpr ⟨sd_iconst 124 23 1 ⟨by decide, by decide⟩ (dk_124_0 (23, .iconst 1, 1) (List.mem_of_getElem? (i := 13) rfl)),
  List.forall_mem_cons.mpr ⟨sd_callV 124 24 91 1 2 82 7 [] (gdV hws_124 hws_91 zw362 zw363 zw364 zw358 zw361) hws_91 rfl (by decide +kernel) rfl rfl ⟨by decide +kernel, by decide +kernel, by decide +kernel⟩ ⟨by decide, by decide⟩ (catch_nil rfl) RX6 rfl TX6 23 rfl ⟨by decide, by decide⟩ (dk_124_0 (24, .invokevirtual 82, 3) (List.mem_of_getElem? (i := 14) rfl)),
  List.forall_mem_cons.mpr ⟨sd_iret 124 27 rfl (dk_124_0 (27, .ireturn, 1) (List.mem_of_getElem? (i := 15) rfl)),
  fun _ h => nomatch h⟩⟩⟩⟩⟩⟩⟩⟩⟩⟩⟩⟩⟩⟩⟩⟩
def tb_124 : List (List (Nat × Op1)) := [tb_124_0]
theorem sm_124 : ∀ t ∈ tb_124, ∀ q ∈ t, SM GwP MdP D A l 124 q.1 q.2 := List.forall_mem_cons.mpr ⟨sm_124_0, fun _ h => nomatch h⟩
-- 125: MarginaliaModel.right(I)I
def dl_125_0 : List (Nat × Instr × Nat) := [(0, .aload_n 0, 1), (1, .iconst 0, 1), (2, .putfield 65, 3), (5, .aload_n 0, 1), (6, .iload_n 1, 1), (7, .invokevirtual 86, 3), (10, .ifCond .eq 12, 3), (13, .aload_n 0, 1), (14, .getfield 9, 3), (17, .iload_n 1, 1), (18, .iaload, 1), (19, .goto 8, 3), (22, .aload_n 0, 1), (23, .iconst 1, 1), (24, .invokevirtual 82, 3), (27, .ireturn, 1)]
theorem dk_125_0 : ∀ q ∈ dl_125_0, decode (mCod (MdP 125)) q.1 = .ok q.2 := by
  rw [show mCod (MdP 125) = cX6_right from rfl]
  decide +kernel
def tb_125_0 : List (Nat × Op1) := [(0, oLdR 0 1), (1, oCI 0 1), (2, oPutI 7 0), (5, oLdR 0 1), (6, oLdI 1 1), (7, oCallV 95 1 2 7 []), (10, oZeq 22), (13, oLdR 0 1), (14, oGetR 7 2), (17, oLdI 1 1), (18, oALdI 10), (19, oGoto 27), (22, oLdR 0 1), (23, oCI 1 1), (24, oCallV 91 1 2 7 []), (27, oRetI)]
theorem sm_125_0 : ∀ q ∈ tb_125_0, SM GwP MdP D A l 125 q.1 q.2 :=
  List.forall_mem_cons.mpr ⟨sd_oLdR_n 125 0 0 0 rfl (dk_125_0 (0, .aload_n 0, 1) (List.mem_of_getElem? (i := 0) rfl)),
  List.forall_mem_cons.mpr ⟨sd_iconst 125 1 0 ⟨by decide, by decide⟩ (dk_125_0 (1, .iconst 0, 1) (List.mem_of_getElem? (i := 1) rfl)),
  List.forall_mem_cons.mpr ⟨sd_oPutI 125 2 7 0 65 RX6 TX6 23 rfl ⟨by decide, by decide⟩ rfl (by decide) rfl (fun w h => iw_125 w (uz_6 w h)) rfl tyX6 tyX6_ok nmX6 rfl rfl (iw_125 _ zw353) (dk_125_0 (2, .putfield 65, 3) (List.mem_of_getElem? (i := 2) rfl)),
  List.forall_mem_cons.mpr ⟨sd_oLdR_n 125 5 0 0 rfl (dk_125_0 (5, .aload_n 0, 1) (List.mem_of_getElem? (i := 3) rfl)),
  List.forall_mem_cons.mpr ⟨sd_oLdI_n 125 6 1 1 rfl (dk_125_0 (6, .iload_n 1, 1) (List.mem_of_getElem? (i := 4) rfl)),
  List.forall_mem_cons.mpr ⟨sd_callV 125 7 95 1 2 86 7 [] (gdV hws_125 hws_95 zw366 zw367 zw368 zw358 zw365) hws_95 rfl (by decide +kernel) rfl rfl ⟨by decide +kernel, by decide +kernel, by decide +kernel⟩ ⟨by decide, by decide⟩ (catch_nil rfl) RX6 rfl TX6 23 rfl ⟨by decide, by decide⟩ (dk_125_0 (7, .invokevirtual 86, 3) (List.mem_of_getElem? (i := 5) rfl)),
  List.forall_mem_cons.mpr ⟨sd_if_eq 125 10 12 22 (by decide) (dk_125_0 (10, .ifCond .eq 12, 3) (List.mem_of_getElem? (i := 6) rfl)),
  List.forall_mem_cons.mpr ⟨sd_oLdR_n 125 13 0 0 rfl (dk_125_0 (13, .aload_n 0, 1) (List.mem_of_getElem? (i := 7) rfl)),
  List.forall_mem_cons.mpr ⟨sd_oGetR 125 14 7 2 9 RX6 TX6 23 rfl ⟨by decide, by decide⟩ rfl (by decide) rfl (fun w h => iw_125 w (uz_6 w h)) rfl (iw_125 _ zw333) (dk_125_0 (14, .getfield 9, 3) (List.mem_of_getElem? (i := 8) rfl)),
  List.forall_mem_cons.mpr ⟨sd_oLdI_n 125 17 1 1 rfl (dk_125_0 (17, .iload_n 1, 1) (List.mem_of_getElem? (i := 9) rfl)),
  List.forall_mem_cons.mpr ⟨sd_iald 125 18 (dk_125_0 (18, .iaload, 1) (List.mem_of_getElem? (i := 10) rfl)),
  List.forall_mem_cons.mpr ⟨sd_goto 125 19 8 27 (by decide) (dk_125_0 (19, .goto 8, 3) (List.mem_of_getElem? (i := 11) rfl)),
  List.forall_mem_cons.mpr ⟨sd_oLdR_n 125 22 0 0 rfl (dk_125_0 (22, .aload_n 0, 1) (List.mem_of_getElem? (i := 12) rfl)),
  List.forall_mem_cons.mpr ⟨sd_iconst 125 23 1 ⟨by decide, by decide⟩ (dk_125_0 (23, .iconst 1, 1) (List.mem_of_getElem? (i := 13) rfl)),
  List.forall_mem_cons.mpr ⟨sd_callV 125 24 91 1 2 82 7 [] (gdV hws_125 hws_91 zw362 zw363 zw364 zw358 zw361) hws_91 rfl (by decide +kernel) rfl rfl ⟨by decide +kernel, by decide +kernel, by decide +kernel⟩ ⟨by decide, by decide⟩ (catch_nil rfl) RX6 rfl TX6 23 rfl ⟨by decide, by decide⟩ (dk_125_0 (24, .invokevirtual 82, 3) (List.mem_of_getElem? (i := 14) rfl)),
  List.forall_mem_cons.mpr ⟨sd_iret 125 27 rfl (dk_125_0 (27, .ireturn, 1) (List.mem_of_getElem? (i := 15) rfl)),
  fun _ h => nomatch h⟩⟩⟩⟩⟩⟩⟩⟩⟩⟩⟩⟩⟩⟩⟩⟩
def tb_125 : List (List (Nat × Op1)) := [tb_125_0]
theorem sm_125 : ∀ t ∈ tb_125, ∀ q ∈ t, SM GwP MdP D A l 125 q.1 q.2 := List.forall_mem_cons.mpr ⟨sm_125_0, fun _ h => nomatch h⟩
-- 126: MarginaliaModel.depth(I)I
def dl_126_0 : List (Nat × Instr × Nat) := [(0, .iconst 0, 1), (1, .istore_n 2, 1), (2, .aload_n 0, 1), (3, .getfield 27, 3), (6, .iload_n 1, 1), (7, .iaload, 1), (8, .istore_n 3, 1), (9, .iload_n 3, 1), (10, .iconst (-1), 1), (11, .if_icmp .eq 16, 3), (14, .iinc 2 1, 3), (17, .aload_n 0, 1), (18, .getfield 27, 3), (21, .iload_n 3, 1), (22, .iaload, 1), (23, .istore_n 3, 1), (24, .goto (-15), 3), (27, .iload_n 2, 1), (28, .ireturn, 1)]
theorem dk_126_0 : ∀ q ∈ dl_126_0, decode (mCod (MdP 126)) q.1 = .ok q.2 := by
  rw [show mCod (MdP 126) = cX6_depth from rfl]
  decide +kernel
def tb_126_0 : List (Nat × Op1) := [(0, oCI 0 1), (1, oStI 2 1), (2, oLdR 0 1), (3, oGetR 7 10), (6, oLdI 1 1), (7, oALdI 10), (8, oStI 3 1), (9, oLdI 3 1), (10, oCI (-1) 1), (11, oCeq 27), (14, oInc 2 1), (17, oLdR 0 1), (18, oGetR 7 10), (21, oLdI 3 1), (22, oALdI 10), (23, oStI 3 1), (24, oGoto 9), (27, oLdI 2 1), (28, oRetI)]
theorem sm_126_0 : ∀ q ∈ tb_126_0, SM GwP MdP D A l 126 q.1 q.2 :=
  List.forall_mem_cons.mpr ⟨sd_iconst 126 0 0 ⟨by decide, by decide⟩ (dk_126_0 (0, .iconst 0, 1) (List.mem_of_getElem? (i := 0) rfl)),
  List.forall_mem_cons.mpr ⟨sd_oStI_n 126 1 2 2 rfl (by decide) (dk_126_0 (1, .istore_n 2, 1) (List.mem_of_getElem? (i := 1) rfl)),
  List.forall_mem_cons.mpr ⟨sd_oLdR_n 126 2 0 0 rfl (dk_126_0 (2, .aload_n 0, 1) (List.mem_of_getElem? (i := 2) rfl)),
  List.forall_mem_cons.mpr ⟨sd_oGetR 126 3 7 10 27 RX6 TX6 23 rfl ⟨by decide, by decide⟩ rfl (by decide) rfl (fun w h => iw_126 w (uz_6 w h)) rfl (iw_126 _ zw339) (dk_126_0 (3, .getfield 27, 3) (List.mem_of_getElem? (i := 3) rfl)),
  List.forall_mem_cons.mpr ⟨sd_oLdI_n 126 6 1 1 rfl (dk_126_0 (6, .iload_n 1, 1) (List.mem_of_getElem? (i := 4) rfl)),
  List.forall_mem_cons.mpr ⟨sd_iald 126 7 (dk_126_0 (7, .iaload, 1) (List.mem_of_getElem? (i := 5) rfl)),
  List.forall_mem_cons.mpr ⟨sd_oStI_n 126 8 3 3 rfl (by decide) (dk_126_0 (8, .istore_n 3, 1) (List.mem_of_getElem? (i := 6) rfl)),
  List.forall_mem_cons.mpr ⟨sd_oLdI_n 126 9 3 3 rfl (dk_126_0 (9, .iload_n 3, 1) (List.mem_of_getElem? (i := 7) rfl)),
  List.forall_mem_cons.mpr ⟨sd_iconst 126 10 (-1) ⟨by decide, by decide⟩ (dk_126_0 (10, .iconst (-1), 1) (List.mem_of_getElem? (i := 8) rfl)),
  List.forall_mem_cons.mpr ⟨sd_icmp_eq 126 11 16 27 (by decide) (dk_126_0 (11, .if_icmp .eq 16, 3) (List.mem_of_getElem? (i := 9) rfl)),
  List.forall_mem_cons.mpr ⟨sd_iinc 126 14 2 1 (by decide) (dk_126_0 (14, .iinc 2 1, 3) (List.mem_of_getElem? (i := 10) rfl)),
  List.forall_mem_cons.mpr ⟨sd_oLdR_n 126 17 0 0 rfl (dk_126_0 (17, .aload_n 0, 1) (List.mem_of_getElem? (i := 11) rfl)),
  List.forall_mem_cons.mpr ⟨sd_oGetR 126 18 7 10 27 RX6 TX6 23 rfl ⟨by decide, by decide⟩ rfl (by decide) rfl (fun w h => iw_126 w (uz_6 w h)) rfl (iw_126 _ zw339) (dk_126_0 (18, .getfield 27, 3) (List.mem_of_getElem? (i := 12) rfl)),
  List.forall_mem_cons.mpr ⟨sd_oLdI_n 126 21 3 3 rfl (dk_126_0 (21, .iload_n 3, 1) (List.mem_of_getElem? (i := 13) rfl)),
  List.forall_mem_cons.mpr ⟨sd_iald 126 22 (dk_126_0 (22, .iaload, 1) (List.mem_of_getElem? (i := 14) rfl)),
  List.forall_mem_cons.mpr ⟨sd_oStI_n 126 23 3 3 rfl (by decide) (dk_126_0 (23, .istore_n 3, 1) (List.mem_of_getElem? (i := 15) rfl)),
  List.forall_mem_cons.mpr ⟨sd_goto 126 24 (-15) 9 (by decide) (dk_126_0 (24, .goto (-15), 3) (List.mem_of_getElem? (i := 16) rfl)),
  List.forall_mem_cons.mpr ⟨sd_oLdI_n 126 27 2 2 rfl (dk_126_0 (27, .iload_n 2, 1) (List.mem_of_getElem? (i := 17) rfl)),
  List.forall_mem_cons.mpr ⟨sd_iret 126 28 rfl (dk_126_0 (28, .ireturn, 1) (List.mem_of_getElem? (i := 18) rfl)),
  fun _ h => nomatch h⟩⟩⟩⟩⟩⟩⟩⟩⟩⟩⟩⟩⟩⟩⟩⟩⟩⟩⟩
def tb_126 : List (List (Nat × Op1)) := [tb_126_0]
theorem sm_126 : ∀ t ∈ tb_126, ∀ q ∈ t, SM GwP MdP D A l 126 q.1 q.2 := List.forall_mem_cons.mpr ⟨sm_126_0, fun _ h => nomatch h⟩
-- 127: MarginaliaModel.contentOf(I)I
def dl_127_0 : List (Nat × Instr × Nat) := [(0, .aload_n 0, 1), (1, .getfield 33, 3), (4, .iload_n 1, 1), (5, .iaload, 1), (6, .iconst 1, 1), (7, .if_icmp .ne 7, 3), (10, .iconst (-1), 1), (11, .goto 9, 3), (14, .aload_n 0, 1), (15, .getfield 24, 3), (18, .iload_n 1, 1), (19, .iaload, 1), (20, .ireturn, 1)]
theorem dk_127_0 : ∀ q ∈ dl_127_0, decode (mCod (MdP 127)) q.1 = .ok q.2 := by
  rw [show mCod (MdP 127) = cX6_contentOf from rfl]
  decide +kernel
def tb_127_0 : List (Nat × Op1) := [(0, oLdR 0 1), (1, oGetR 7 12), (4, oLdI 1 1), (5, oALdI 10), (6, oCI 1 1), (7, oCne 14), (10, oCI (-1) 1), (11, oGoto 20), (14, oLdR 0 1), (15, oGetR 7 9), (18, oLdI 1 1), (19, oALdI 10), (20, oRetI)]
theorem sm_127_0 : ∀ q ∈ tb_127_0, SM GwP MdP D A l 127 q.1 q.2 :=
  List.forall_mem_cons.mpr ⟨sd_oLdR_n 127 0 0 0 rfl (dk_127_0 (0, .aload_n 0, 1) (List.mem_of_getElem? (i := 0) rfl)),
  List.forall_mem_cons.mpr ⟨sd_oGetR 127 1 7 12 33 RX6 TX6 23 rfl ⟨by decide, by decide⟩ rfl (by decide) rfl (fun w h => iw_127 w (uz_6 w h)) rfl (iw_127 _ zw341) (dk_127_0 (1, .getfield 33, 3) (List.mem_of_getElem? (i := 1) rfl)),
  List.forall_mem_cons.mpr ⟨sd_oLdI_n 127 4 1 1 rfl (dk_127_0 (4, .iload_n 1, 1) (List.mem_of_getElem? (i := 2) rfl)),
  List.forall_mem_cons.mpr ⟨sd_iald 127 5 (dk_127_0 (5, .iaload, 1) (List.mem_of_getElem? (i := 3) rfl)),
  List.forall_mem_cons.mpr ⟨sd_iconst 127 6 1 ⟨by decide, by decide⟩ (dk_127_0 (6, .iconst 1, 1) (List.mem_of_getElem? (i := 4) rfl)),
  List.forall_mem_cons.mpr ⟨sd_icmp_ne 127 7 7 14 (by decide) (dk_127_0 (7, .if_icmp .ne 7, 3) (List.mem_of_getElem? (i := 5) rfl)),
  List.forall_mem_cons.mpr ⟨sd_iconst 127 10 (-1) ⟨by decide, by decide⟩ (dk_127_0 (10, .iconst (-1), 1) (List.mem_of_getElem? (i := 6) rfl)),
  List.forall_mem_cons.mpr ⟨sd_goto 127 11 9 20 (by decide) (dk_127_0 (11, .goto 9, 3) (List.mem_of_getElem? (i := 7) rfl)),
  List.forall_mem_cons.mpr ⟨sd_oLdR_n 127 14 0 0 rfl (dk_127_0 (14, .aload_n 0, 1) (List.mem_of_getElem? (i := 8) rfl)),
  List.forall_mem_cons.mpr ⟨sd_oGetR 127 15 7 9 24 RX6 TX6 23 rfl ⟨by decide, by decide⟩ rfl (by decide) rfl (fun w h => iw_127 w (uz_6 w h)) rfl (iw_127 _ zw338) (dk_127_0 (15, .getfield 24, 3) (List.mem_of_getElem? (i := 9) rfl)),
  List.forall_mem_cons.mpr ⟨sd_oLdI_n 127 18 1 1 rfl (dk_127_0 (18, .iload_n 1, 1) (List.mem_of_getElem? (i := 10) rfl)),
  List.forall_mem_cons.mpr ⟨sd_iald 127 19 (dk_127_0 (19, .iaload, 1) (List.mem_of_getElem? (i := 11) rfl)),
  List.forall_mem_cons.mpr ⟨sd_iret 127 20 rfl (dk_127_0 (20, .ireturn, 1) (List.mem_of_getElem? (i := 12) rfl)),
  fun _ h => nomatch h⟩⟩⟩⟩⟩⟩⟩⟩⟩⟩⟩⟩⟩
def tb_127 : List (List (Nat × Op1)) := [tb_127_0]
theorem sm_127 : ∀ t ∈ tb_127, ∀ q ∈ t, SM GwP MdP D A l 127 q.1 q.2 := List.forall_mem_cons.mpr ⟨sm_127_0, fun _ h => nomatch h⟩
-- 128: MarginaliaModel.ofNow(II)I
def dl_128_0 : List (Nat × Instr × Nat) := [(0, .aload_n 0, 1), (1, .getfield 30, 3), (4, .iload_n 1, 1), (5, .iaload, 1), (6, .istore_n 3, 1), (7, .iload_n 2, 1), (8, .tableswitch 126 0 9 #[56, 63, 70, 72, 78, 85, 92, 98, 104, 119], 56), (64, .aload_n 0, 1), (65, .getfield 21, 3), (68, .iload_n 1, 1), (69, .iaload, 1), (70, .ireturn, 1), (71, .aload_n 0, 1), (72, .getfield 27, 3), (75, .iload_n 1, 1), (76, .iaload, 1), (77, .ireturn, 1), (78, .iload_n 3, 1), (79, .ireturn, 1), (80, .aload_n 0, 1), (81, .iload_n 1, 1), (82, .invokevirtual 161, 3), (85, .ireturn, 1), (86, .aload_n 0, 1), (87, .getfield 36, 3), (90, .iload_n 3, 1), (91, .iaload, 1), (92, .ireturn, 1), (93, .aload_n 0, 1), (94, .getfield 39, 3), (97, .iload_n 3, 1), (98, .iaload, 1), (99, .ireturn, 1), (100, .aload_n 0, 1), (101, .iload_n 1, 1), (102, .invokevirtual 164, 3), (105, .ireturn, 1), (106, .aload_n 0, 1), (107, .iload_n 1, 1), (108, .invokevirtual 143, 3)]
theorem dk_128_0 : ∀ q ∈ dl_128_0, decode (mCod (MdP 128)) q.1 = .ok q.2 := by
  rw [show mCod (MdP 128) = cX6_ofNow from rfl]
  decide +kernel
def dl_128_1 : List (Nat × Instr × Nat) := [(111, .ireturn, 1), (112, .aload_n 0, 1), (113, .getfield 51, 3), (116, .iload_n 3, 1), (117, .baload, 1), (118, .ifCond .eq 7, 3), (121, .iconst 1, 1), (122, .goto 4, 3), (125, .iconst 0, 1), (126, .ireturn, 1), (127, .aload_n 0, 1), (128, .getfield 42, 3), (131, .iload_n 3, 1), (132, .iaload, 1), (133, .ireturn, 1), (134, .aload_n 0, 1), (135, .getfield 45, 3), (138, .iload_n 3, 1), (139, .iaload, 1), (140, .ireturn, 1)]
theorem dk_128_1 : ∀ q ∈ dl_128_1, decode (mCod (MdP 128)) q.1 = .ok q.2 := by
  rw [show mCod (MdP 128) = cX6_ofNow from rfl]
  decide +kernel
def tb_128_0 : List (Nat × Op1) := [(0, oLdR 0 1), (1, oGetR 7 11), (4, oLdI 1 1), (5, oALdI 10), (6, oStI 3 1), (7, oLdI 2 1), (8, oSw 0 [64, 71, 78, 80, 86, 93, 100, 106, 112, 127] 134)]
theorem sm_128_0 : ∀ q ∈ tb_128_0, SM GwP MdP D A l 128 q.1 q.2 :=
  List.forall_mem_cons.mpr ⟨sd_oLdR_n 128 0 0 0 rfl (dk_128_0 (0, .aload_n 0, 1) (List.mem_of_getElem? (i := 0) rfl)),
  List.forall_mem_cons.mpr ⟨sd_oGetR 128 1 7 11 30 RX6 TX6 23 rfl ⟨by decide, by decide⟩ rfl (by decide) rfl (fun w h => iw_128 w (uz_6 w h)) rfl (iw_128 _ zw340) (dk_128_0 (1, .getfield 30, 3) (List.mem_of_getElem? (i := 1) rfl)),
  List.forall_mem_cons.mpr ⟨sd_oLdI_n 128 4 1 1 rfl (dk_128_0 (4, .iload_n 1, 1) (List.mem_of_getElem? (i := 2) rfl)),
  List.forall_mem_cons.mpr ⟨sd_iald 128 5 (dk_128_0 (5, .iaload, 1) (List.mem_of_getElem? (i := 3) rfl)),
  List.forall_mem_cons.mpr ⟨sd_oStI_n 128 6 3 3 rfl (by decide) (dk_128_0 (6, .istore_n 3, 1) (List.mem_of_getElem? (i := 4) rfl)),
  List.forall_mem_cons.mpr ⟨sd_oLdI_n 128 7 2 2 rfl (dk_128_0 (7, .iload_n 2, 1) (List.mem_of_getElem? (i := 5) rfl)),
  List.forall_mem_cons.mpr ⟨sd_tableswitch 128 8 126 0 9 #[56, 63, 70, 72, 78, 85, 92, 98, 104, 119] 56 [64, 71, 78, 80, 86, 93, 100, 106, 112, 127] 134 (by decide) (by decide) (by decide) (dk_128_0 (8, .tableswitch 126 0 9 #[56, 63, 70, 72, 78, 85, 92, 98, 104, 119], 56) (List.mem_of_getElem? (i := 6) rfl)),
  fun _ h => nomatch h⟩⟩⟩⟩⟩⟩⟩
def tb_128_1 : List (Nat × Op1) := [(64, oLdR 0 1), (65, oGetR 7 8), (68, oLdI 1 1), (69, oALdI 10), (70, oRetI), (71, oLdR 0 1), (72, oGetR 7 10), (75, oLdI 1 1), (76, oALdI 10), (77, oRetI), (78, oLdI 3 1), (79, oRetI), (80, oLdR 0 1), (81, oLdI 1 1), (82, oCallV 127 1 2 7 []), (85, oRetI), (86, oLdR 0 1), (87, oGetR 7 13), (90, oLdI 3 1), (91, oALdI 10), (92, oRetI), (93, oLdR 0 1), (94, oGetR 7 14), (97, oLdI 3 1), (98, oALdI 10), (99, oRetI), (100, oLdR 0 1), (101, oLdI 1 1), (102, oCallV 126 1 4 7 []), (105, oRetI), (106, oLdR 0 1), (107, oLdI 1 1), (108, oCallV 115 1 4 7 []), (111, oRetI), (112, oLdR 0 1), (113, oGetR 7 18), (116, oLdI 3 1), (117, oALdI 12), (118, oZeq 125), (121, oCI 1 1), (122, oGoto 126), (125, oCI 0 1), (126, oRetI), (127, oLdR 0 1)]
theorem sm_128_1 : ∀ q ∈ tb_128_1, SM GwP MdP D A l 128 q.1 q.2 :=
  List.forall_mem_cons.mpr ⟨sd_oLdR_n 128 64 0 0 rfl (dk_128_0 (64, .aload_n 0, 1) (List.mem_of_getElem? (i := 7) rfl)),
  List.forall_mem_cons.mpr ⟨sd_oGetR 128 65 7 8 21 RX6 TX6 23 rfl ⟨by decide, by decide⟩ rfl (by decide) rfl (fun w h => iw_128 w (uz_6 w h)) rfl (iw_128 _ zw337) (dk_128_0 (65, .getfield 21, 3) (List.mem_of_getElem? (i := 8) rfl)),
  List.forall_mem_cons.mpr ⟨sd_oLdI_n 128 68 1 1 rfl (dk_128_0 (68, .iload_n 1, 1) (List.mem_of_getElem? (i := 9) rfl)),
  List.forall_mem_cons.mpr ⟨sd_iald 128 69 (dk_128_0 (69, .iaload, 1) (List.mem_of_getElem? (i := 10) rfl)),
  List.forall_mem_cons.mpr ⟨sd_iret 128 70 rfl (dk_128_0 (70, .ireturn, 1) (List.mem_of_getElem? (i := 11) rfl)),
  List.forall_mem_cons.mpr ⟨sd_oLdR_n 128 71 0 0 rfl (dk_128_0 (71, .aload_n 0, 1) (List.mem_of_getElem? (i := 12) rfl)),
  List.forall_mem_cons.mpr ⟨sd_oGetR 128 72 7 10 27 RX6 TX6 23 rfl ⟨by decide, by decide⟩ rfl (by decide) rfl (fun w h => iw_128 w (uz_6 w h)) rfl (iw_128 _ zw339) (dk_128_0 (72, .getfield 27, 3) (List.mem_of_getElem? (i := 13) rfl)),
  List.forall_mem_cons.mpr ⟨sd_oLdI_n 128 75 1 1 rfl (dk_128_0 (75, .iload_n 1, 1) (List.mem_of_getElem? (i := 14) rfl)),
  List.forall_mem_cons.mpr ⟨sd_iald 128 76 (dk_128_0 (76, .iaload, 1) (List.mem_of_getElem? (i := 15) rfl)),
  List.forall_mem_cons.mpr ⟨sd_iret 128 77 rfl (dk_128_0 (77, .ireturn, 1) (List.mem_of_getElem? (i := 16) rfl)),
  List.forall_mem_cons.mpr ⟨sd_oLdI_n 128 78 3 3 rfl (dk_128_0 (78, .iload_n 3, 1) (List.mem_of_getElem? (i := 17) rfl)),
  List.forall_mem_cons.mpr ⟨sd_iret 128 79 rfl (dk_128_0 (79, .ireturn, 1) (List.mem_of_getElem? (i := 18) rfl)),
  List.forall_mem_cons.mpr ⟨sd_oLdR_n 128 80 0 0 rfl (dk_128_0 (80, .aload_n 0, 1) (List.mem_of_getElem? (i := 19) rfl)),
  List.forall_mem_cons.mpr ⟨sd_oLdI_n 128 81 1 1 rfl (dk_128_0 (81, .iload_n 1, 1) (List.mem_of_getElem? (i := 20) rfl)),
  List.forall_mem_cons.mpr ⟨sd_callV 128 82 127 1 2 161 7 [] (gdV hws_128 hws_127 zw437 zw438 zw439 zw358 zw436) hws_127 rfl (by decide +kernel) rfl rfl ⟨by decide +kernel, by decide +kernel, by decide +kernel⟩ ⟨by decide, by decide⟩ (catch_nil rfl) RX6 rfl TX6 23 rfl ⟨by decide, by decide⟩ (dk_128_0 (82, .invokevirtual 161, 3) (List.mem_of_getElem? (i := 21) rfl)),
  List.forall_mem_cons.mpr ⟨sd_iret 128 85 rfl (dk_128_0 (85, .ireturn, 1) (List.mem_of_getElem? (i := 22) rfl)),
  List.forall_mem_cons.mpr ⟨sd_oLdR_n 128 86 0 0 rfl (dk_128_0 (86, .aload_n 0, 1) (List.mem_of_getElem? (i := 23) rfl)),
  List.forall_mem_cons.mpr ⟨sd_oGetR 128 87 7 13 36 RX6 TX6 23 rfl ⟨by decide, by decide⟩ rfl (by decide) rfl (fun w h => iw_128 w (uz_6 w h)) rfl (iw_128 _ zw342) (dk_128_0 (87, .getfield 36, 3) (List.mem_of_getElem? (i := 24) rfl)),
  List.forall_mem_cons.mpr ⟨sd_oLdI_n 128 90 3 3 rfl (dk_128_0 (90, .iload_n 3, 1) (List.mem_of_getElem? (i := 25) rfl)),
  List.forall_mem_cons.mpr ⟨sd_iald 128 91 (dk_128_0 (91, .iaload, 1) (List.mem_of_getElem? (i := 26) rfl)),
  List.forall_mem_cons.mpr ⟨sd_iret 128 92 rfl (dk_128_0 (92, .ireturn, 1) (List.mem_of_getElem? (i := 27) rfl)),
  List.forall_mem_cons.mpr ⟨sd_oLdR_n 128 93 0 0 rfl (dk_128_0 (93, .aload_n 0, 1) (List.mem_of_getElem? (i := 28) rfl)),
  List.forall_mem_cons.mpr ⟨sd_oGetR 128 94 7 14 39 RX6 TX6 23 rfl ⟨by decide, by decide⟩ rfl (by decide) rfl (fun w h => iw_128 w (uz_6 w h)) rfl (iw_128 _ zw343) (dk_128_0 (94, .getfield 39, 3) (List.mem_of_getElem? (i := 29) rfl)),
  List.forall_mem_cons.mpr ⟨sd_oLdI_n 128 97 3 3 rfl (dk_128_0 (97, .iload_n 3, 1) (List.mem_of_getElem? (i := 30) rfl)),
  List.forall_mem_cons.mpr ⟨sd_iald 128 98 (dk_128_0 (98, .iaload, 1) (List.mem_of_getElem? (i := 31) rfl)),
  List.forall_mem_cons.mpr ⟨sd_iret 128 99 rfl (dk_128_0 (99, .ireturn, 1) (List.mem_of_getElem? (i := 32) rfl)),
  List.forall_mem_cons.mpr ⟨sd_oLdR_n 128 100 0 0 rfl (dk_128_0 (100, .aload_n 0, 1) (List.mem_of_getElem? (i := 33) rfl)),
  List.forall_mem_cons.mpr ⟨sd_oLdI_n 128 101 1 1 rfl (dk_128_0 (101, .iload_n 1, 1) (List.mem_of_getElem? (i := 34) rfl)),
  List.forall_mem_cons.mpr ⟨sd_callV 128 102 126 1 4 164 7 [] (gdV hws_128 hws_126 zw441 zw442 zw443 zw358 zw440) hws_126 rfl (by decide +kernel) rfl rfl ⟨by decide +kernel, by decide +kernel, by decide +kernel⟩ ⟨by decide, by decide⟩ (catch_nil rfl) RX6 rfl TX6 23 rfl ⟨by decide, by decide⟩ (dk_128_0 (102, .invokevirtual 164, 3) (List.mem_of_getElem? (i := 35) rfl)),
  List.forall_mem_cons.mpr ⟨sd_iret 128 105 rfl (dk_128_0 (105, .ireturn, 1) (List.mem_of_getElem? (i := 36) rfl)),
  List.forall_mem_cons.mpr ⟨sd_oLdR_n 128 106 0 0 rfl (dk_128_0 (106, .aload_n 0, 1) (List.mem_of_getElem? (i := 37) rfl)),
  List.forall_mem_cons.mpr ⟨sd_oLdI_n 128 107 1 1 rfl (dk_128_0 (107, .iload_n 1, 1) (List.mem_of_getElem? (i := 38) rfl)),
  List.forall_mem_cons.mpr ⟨sd_callV 128 108 115 1 4 143 7 [] (gdV hws_128 hws_115 zw414 zw415 zw416 zw358 zw413) hws_115 rfl (by decide +kernel) rfl rfl ⟨by decide +kernel, by decide +kernel, by decide +kernel⟩ ⟨by decide, by decide⟩ (catch_nil rfl) RX6 rfl TX6 23 rfl ⟨by decide, by decide⟩ (dk_128_0 (108, .invokevirtual 143, 3) (List.mem_of_getElem? (i := 39) rfl)),
  List.forall_mem_cons.mpr ⟨sd_iret 128 111 rfl (dk_128_1 (111, .ireturn, 1) (List.mem_of_getElem? (i := 0) rfl)),
  List.forall_mem_cons.mpr ⟨sd_oLdR_n 128 112 0 0 rfl (dk_128_1 (112, .aload_n 0, 1) (List.mem_of_getElem? (i := 1) rfl)),
  List.forall_mem_cons.mpr ⟨sd_oGetR 128 113 7 18 51 RX6 TX6 23 rfl ⟨by decide, by decide⟩ rfl (by decide) rfl (fun w h => iw_128 w (uz_6 w h)) rfl (iw_128 _ zw348) (dk_128_1 (113, .getfield 51, 3) (List.mem_of_getElem? (i := 2) rfl)),
  List.forall_mem_cons.mpr ⟨sd_oLdI_n 128 116 3 3 rfl (dk_128_1 (116, .iload_n 3, 1) (List.mem_of_getElem? (i := 3) rfl)),
  List.forall_mem_cons.mpr ⟨sd_zald 128 117 (dk_128_1 (117, .baload, 1) (List.mem_of_getElem? (i := 4) rfl)),
  List.forall_mem_cons.mpr ⟨sd_if_eq 128 118 7 125 (by decide) (dk_128_1 (118, .ifCond .eq 7, 3) (List.mem_of_getElem? (i := 5) rfl)),
  List.forall_mem_cons.mpr ⟨sd_iconst 128 121 1 ⟨by decide, by decide⟩ (dk_128_1 (121, .iconst 1, 1) (List.mem_of_getElem? (i := 6) rfl)),
  List.forall_mem_cons.mpr ⟨sd_goto 128 122 4 126 (by decide) (dk_128_1 (122, .goto 4, 3) (List.mem_of_getElem? (i := 7) rfl)),
  List.forall_mem_cons.mpr ⟨sd_iconst 128 125 0 ⟨by decide, by decide⟩ (dk_128_1 (125, .iconst 0, 1) (List.mem_of_getElem? (i := 8) rfl)),
  List.forall_mem_cons.mpr ⟨sd_iret 128 126 rfl (dk_128_1 (126, .ireturn, 1) (List.mem_of_getElem? (i := 9) rfl)),
  List.forall_mem_cons.mpr ⟨sd_oLdR_n 128 127 0 0 rfl (dk_128_1 (127, .aload_n 0, 1) (List.mem_of_getElem? (i := 10) rfl)),
  fun _ h => nomatch h⟩⟩⟩⟩⟩⟩⟩⟩⟩⟩⟩⟩⟩⟩⟩⟩⟩⟩⟩⟩⟩⟩⟩⟩⟩⟩⟩⟩⟩⟩⟩⟩⟩⟩⟩⟩⟩⟩⟩⟩⟩⟩⟩⟩
def tb_128_2 : List (Nat × Op1) := [(128, oGetR 7 15), (131, oLdI 3 1), (132, oALdI 10), (133, oRetI), (134, oLdR 0 1), (135, oGetR 7 16), (138, oLdI 3 1), (139, oALdI 10), (140, oRetI)]
theorem sm_128_2 : ∀ q ∈ tb_128_2, SM GwP MdP D A l 128 q.1 q.2 :=
  List.forall_mem_cons.mpr ⟨sd_oGetR 128 128 7 15 42 RX6 TX6 23 rfl ⟨by decide, by decide⟩ rfl (by decide) rfl (fun w h => iw_128 w (uz_6 w h)) rfl (iw_128 _ zw344) (dk_128_1 (128, .getfield 42, 3) (List.mem_of_getElem? (i := 11) rfl)),
  List.forall_mem_cons.mpr ⟨sd_oLdI_n 128 131 3 3 rfl (dk_128_1 (131, .iload_n 3, 1) (List.mem_of_getElem? (i := 12) rfl)),
  List.forall_mem_cons.mpr ⟨sd_iald 128 132 (dk_128_1 (132, .iaload, 1) (List.mem_of_getElem? (i := 13) rfl)),
  List.forall_mem_cons.mpr ⟨sd_iret 128 133 rfl (dk_128_1 (133, .ireturn, 1) (List.mem_of_getElem? (i := 14) rfl)),
  List.forall_mem_cons.mpr ⟨sd_oLdR_n 128 134 0 0 rfl (dk_128_1 (134, .aload_n 0, 1) (List.mem_of_getElem? (i := 15) rfl)),
  List.forall_mem_cons.mpr ⟨sd_oGetR 128 135 7 16 45 RX6 TX6 23 rfl ⟨by decide, by decide⟩ rfl (by decide) rfl (fun w h => iw_128 w (uz_6 w h)) rfl (iw_128 _ zw345) (dk_128_1 (135, .getfield 45, 3) (List.mem_of_getElem? (i := 16) rfl)),
  List.forall_mem_cons.mpr ⟨sd_oLdI_n 128 138 3 3 rfl (dk_128_1 (138, .iload_n 3, 1) (List.mem_of_getElem? (i := 17) rfl)),
  List.forall_mem_cons.mpr ⟨sd_iald 128 139 (dk_128_1 (139, .iaload, 1) (List.mem_of_getElem? (i := 18) rfl)),
  List.forall_mem_cons.mpr ⟨sd_iret 128 140 rfl (dk_128_1 (140, .ireturn, 1) (List.mem_of_getElem? (i := 19) rfl)),
  fun _ h => nomatch h⟩⟩⟩⟩⟩⟩⟩⟩⟩
def tb_128 : List (List (Nat × Op1)) := [tb_128_0, tb_128_1, tb_128_2]
theorem sm_128 : ∀ t ∈ tb_128, ∀ q ∈ t, SM GwP MdP D A l 128 q.1 q.2 := List.forall_mem_cons.mpr ⟨sm_128_0, List.forall_mem_cons.mpr ⟨sm_128_1, List.forall_mem_cons.mpr ⟨sm_128_2, fun _ h => nomatch h⟩⟩⟩
-- 129: MarginaliaModel.ofNote(II)I
def dl_129_0 : List (Nat × Instr × Nat) := [(0, .aload_n 0, 1), (1, .iconst 0, 1), (2, .putfield 65, 3), (5, .aload_n 0, 1), (6, .iload_n 1, 1), (7, .invokevirtual 134, 3), (10, .ifCond .ne 9, 3), (13, .aload_n 0, 1), (14, .iconst 1, 1), (15, .invokevirtual 82, 3), (18, .ireturn, 1), (19, .iload_n 2, 1), (20, .iconst 0, 1), (21, .bipush 10, 2), (23, .invokestatic 72, 3), (26, .ifCond .eq 12, 3), (29, .aload_n 0, 1), (30, .iload_n 1, 1), (31, .iload_n 2, 1), (32, .invokevirtual 167, 3), (35, .goto 8, 3), (38, .aload_n 0, 1), (39, .iconst 2, 1), (40, .invokevirtual 82, 3), (43, .ireturn, 1)]
theorem dk_129_0 : ∀ q ∈ dl_129_0, decode (mCod (MdP 129)) q.1 = .ok q.2 := by
  rw [show mCod (MdP 129) = cX6_ofNote from rfl]
  decide +kernel
def tb_129_0 : List (Nat × Op1) := [(0, oLdR 0 1), (1, oCI 0 1), (2, oPutI 7 0), (5, oLdR 0 1), (6, oLdI 1 1), (7, oCallV 96 1 2 7 []), (10, oZne 19), (13, oLdR 0 1), (14, oCI 1 1), (15, oCallV 91 1 2 7 []), (18, oRetI), (19, oLdI 2 1), (20, oCI 0 1), (21, oCI 10 2), (23, oCallS 94 3 3 []), (26, oZeq 38), (29, oLdR 0 1), (30, oLdI 1 1), (31, oLdI 2 1), (32, oCallV 128 2 4 7 []), (35, oGoto 43), (38, oLdR 0 1), (39, oCI 2 1), (40, oCallV 91 1 2 7 []), (43, oRetI)]
theorem sm_129_0 : ∀ q ∈ tb_129_0, SM GwP MdP D A l 129 q.1 q.2 :=
  List.forall_mem_cons.mpr ⟨sd_oLdR_n 129 0 0 0 rfl (dk_129_0 (0, .aload_n 0, 1) (List.mem_of_getElem? (i := 0) rfl)),
  List.forall_mem_cons.mpr ⟨sd_iconst 129 1 0 ⟨by decide, by decide⟩ (dk_129_0 (1, .iconst 0, 1) (List.mem_of_getElem? (i := 1) rfl)),
  List.forall_mem_cons.mpr ⟨sd_oPutI 129 2 7 0 65 RX6 TX6 23 rfl ⟨by decide, by decide⟩ rfl (by decide) rfl (fun w h => iw_129 w (uz_6 w h)) rfl tyX6 tyX6_ok nmX6 rfl rfl (iw_129 _ zw353) (dk_129_0 (2, .putfield 65, 3) (List.mem_of_getElem? (i := 2) rfl)),
  List.forall_mem_cons.mpr ⟨sd_oLdR_n 129 5 0 0 rfl (dk_129_0 (5, .aload_n 0, 1) (List.mem_of_getElem? (i := 3) rfl)),
  List.forall_mem_cons.mpr ⟨sd_oLdI_n 129 6 1 1 rfl (dk_129_0 (6, .iload_n 1, 1) (List.mem_of_getElem? (i := 4) rfl)),
  List.forall_mem_cons.mpr ⟨sd_callV 129 7 96 1 2 134 7 [] (gdV hws_129 hws_96 zw402 zw403 zw404 zw358 zw401) hws_96 rfl (by decide +kernel) rfl rfl ⟨by decide +kernel, by decide +kernel, by decide +kernel⟩ ⟨by decide, by decide⟩ (catch_nil rfl) RX6 rfl TX6 23 rfl ⟨by decide, by decide⟩ (dk_129_0 (7, .invokevirtual 134, 3) (List.mem_of_getElem? (i := 5) rfl)),
  List.forall_mem_cons.mpr ⟨sd_if_ne 129 10 9 19 (by decide) (dk_129_0 (10, .ifCond .ne 9, 3) (List.mem_of_getElem? (i := 6) rfl)),
  List.forall_mem_cons.mpr ⟨sd_oLdR_n 129 13 0 0 rfl (dk_129_0 (13, .aload_n 0, 1) (List.mem_of_getElem? (i := 7) rfl)),
  List.forall_mem_cons.mpr ⟨sd_iconst 129 14 1 ⟨by decide, by decide⟩ (dk_129_0 (14, .iconst 1, 1) (List.mem_of_getElem? (i := 8) rfl)),
  List.forall_mem_cons.mpr ⟨sd_callV 129 15 91 1 2 82 7 [] (gdV hws_129 hws_91 zw362 zw363 zw364 zw358 zw361) hws_91 rfl (by decide +kernel) rfl rfl ⟨by decide +kernel, by decide +kernel, by decide +kernel⟩ ⟨by decide, by decide⟩ (catch_nil rfl) RX6 rfl TX6 23 rfl ⟨by decide, by decide⟩ (dk_129_0 (15, .invokevirtual 82, 3) (List.mem_of_getElem? (i := 9) rfl)),
  List.forall_mem_cons.mpr ⟨sd_iret 129 18 rfl (dk_129_0 (18, .ireturn, 1) (List.mem_of_getElem? (i := 10) rfl)),
  List.forall_mem_cons.mpr ⟨sd_oLdI_n 129 19 2 2 rfl (dk_129_0 (19, .iload_n 2, 1) (List.mem_of_getElem? (i := 11) rfl)),
  List.forall_mem_cons.mpr ⟨sd_iconst 129 20 0 ⟨by decide, by decide⟩ (dk_129_0 (20, .iconst 0, 1) (List.mem_of_getElem? (i := 12) rfl)),
  List.forall_mem_cons.mpr ⟨sd_bipush 129 21 10 ⟨by decide, by decide⟩ (by decide) (dk_129_0 (21, .bipush 10, 2) (List.mem_of_getElem? (i := 13) rfl)),
  List.forall_mem_cons.mpr ⟨sd_callS 129 23 94 3 3 72 [] (gdS hws_129 hws_94 zw356 zw357 zw358 zw355) hws_94 rfl (by decide +kernel) rfl rfl ⟨by decide +kernel, by decide +kernel, by decide +kernel⟩ ⟨by decide, by decide⟩ (catch_nil rfl) (dk_129_0 (23, .invokestatic 72, 3) (List.mem_of_getElem? (i := 14) rfl)),
  List.forall_mem_cons.mpr ⟨sd_if_eq 129 26 12 38 (by decide) (dk_129_0 (26, .ifCond .eq 12, 3) (List.mem_of_getElem? (i := 15) rfl)),
  List.forall_mem_cons.mpr ⟨sd_oLdR_n 129 29 0 0 rfl (dk_129_0 (29, .aload_n 0, 1) (List.mem_of_getElem? (i := 16) rfl)),
  List.forall_mem_cons.mpr ⟨sd_oLdI_n 129 30 1 1 rfl (dk_129_0 (30, .iload_n 1, 1) (List.mem_of_getElem? (i := 17) rfl)),
  List.forall_mem_cons.mpr ⟨sd_oLdI_n 129 31 2 2 rfl (dk_129_0 (31, .iload_n 2, 1) (List.mem_of_getElem? (i := 18) rfl)),
  List.forall_mem_cons.mpr ⟨sd_callV 129 32 128 2 4 167 7 [] (gdV hws_129 hws_128 zw445 zw446 zw447 zw358 zw444) hws_128 rfl (by decide +kernel) rfl rfl ⟨by decide +kernel, by decide +kernel, by decide +kernel⟩ ⟨by decide, by decide⟩ (catch_nil rfl) RX6 rfl TX6 23 rfl ⟨by decide, by decide⟩ (dk_129_0 (32, .invokevirtual 167, 3) (List.mem_of_getElem? (i := 19) rfl)),
  List.forall_mem_cons.mpr ⟨sd_goto 129 35 8 43 (by decide) (dk_129_0 (35, .goto 8, 3) (List.mem_of_getElem? (i := 20) rfl)),
  List.forall_mem_cons.mpr ⟨sd_oLdR_n 129 38 0 0 rfl (dk_129_0 (38, .aload_n 0, 1) (List.mem_of_getElem? (i := 21) rfl)),
  List.forall_mem_cons.mpr ⟨sd_iconst 129 39 2 ⟨by decide, by decide⟩ (dk_129_0 (39, .iconst 2, 1) (List.mem_of_getElem? (i := 22) rfl)),
  List.forall_mem_cons.mpr ⟨sd_callV 129 40 91 1 2 82 7 [] (gdV hws_129 hws_91 zw362 zw363 zw364 zw358 zw361) hws_91 rfl (by decide +kernel) rfl rfl ⟨by decide +kernel, by decide +kernel, by decide +kernel⟩ ⟨by decide, by decide⟩ (catch_nil rfl) RX6 rfl TX6 23 rfl ⟨by decide, by decide⟩ (dk_129_0 (40, .invokevirtual 82, 3) (List.mem_of_getElem? (i := 23) rfl)),
  List.forall_mem_cons.mpr ⟨sd_iret 129 43 rfl (dk_129_0 (43, .ireturn, 1) (List.mem_of_getElem? (i := 24) rfl)),
  fun _ h => nomatch h⟩⟩⟩⟩⟩⟩⟩⟩⟩⟩⟩⟩⟩⟩⟩⟩⟩⟩⟩⟩⟩⟩⟩⟩⟩
def tb_129 : List (List (Nat × Op1)) := [tb_129_0]
theorem sm_129 : ∀ t ∈ tb_129, ∀ q ∈ t, SM GwP MdP D A l 129 q.1 q.2 := List.forall_mem_cons.mpr ⟨sm_129_0, fun _ h => nomatch h⟩
-- 130: MarginaliaModel.quote(II)I
def dl_130_0 : List (Nat × Instr × Nat) := [(0, .aload_n 0, 1), (1, .iconst 0, 1), (2, .putfield 65, 3), (5, .aload_n 0, 1), (6, .iload_n 1, 1), (7, .invokevirtual 134, 3), (10, .ifCond .ne 9, 3), (13, .aload_n 0, 1), (14, .iconst 1, 1), (15, .invokevirtual 82, 3), (18, .ireturn, 1), (19, .aload_n 0, 1), (20, .getfield 56, 3), (23, .aload_n 0, 1), (24, .getfield 30, 3), (27, .iload_n 1, 1), (28, .iaload, 1), (29, .aaload, 1), (30, .astore_n 3, 1), (31, .iload_n 2, 1), (32, .iconst 0, 1), (33, .aload_n 3, 1), (34, .arraylength, 1), (35, .iconst 1, 1), (36, .isub, 1), (37, .invokestatic 72, 3), (40, .ifCond .eq 9, 3), (43, .aload_n 3, 1), (44, .iload_n 2, 1), (45, .iaload, 1), (46, .goto 4, 3), (49, .iconst (-1), 1), (50, .ireturn, 1)]
theorem dk_130_0 : ∀ q ∈ dl_130_0, decode (mCod (MdP 130)) q.1 = .ok q.2 := by
  rw [show mCod (MdP 130) = cX6_quote from rfl]
  decide +kernel
def tb_130_0 : List (Nat × Op1) := [(0, oLdR 0 1), (1, oCI 0 1), (2, oPutI 7 0), (5, oLdR 0 1), (6, oLdI 1 1), (7, oCallV 96 1 2 7 []), (10, oZne 19), (13, oLdR 0 1), (14, oCI 1 1), (15, oCallV 91 1 2 7 []), (18, oRetI), (19, oLdR 0 1), (20, oGetR 7 19), (23, oLdR 0 1), (24, oGetR 7 11), (27, oLdI 1 1), (28, oALdI 10), (29, oALdR 14), (30, oStR 3 1), (31, oLdI 2 1), (32, oCI 0 1), (33, oLdR 3 1), (34, oALen 10), (35, oCI 1 1), (36, oSub), (37, oCallS 94 3 3 []), (40, oZeq 49), (43, oLdR 3 1), (44, oLdI 2 1), (45, oALdI 10), (46, oGoto 50), (49, oCI (-1) 1), (50, oRetI)]
theorem sm_130_0 : ∀ q ∈ tb_130_0, SM GwP MdP D A l 130 q.1 q.2 :=
  List.forall_mem_cons.mpr ⟨sd_oLdR_n 130 0 0 0 rfl (dk_130_0 (0, .aload_n 0, 1) (List.mem_of_getElem? (i := 0) rfl)),
  List.forall_mem_cons.mpr ⟨sd_iconst 130 1 0 ⟨by decide, by decide⟩ (dk_130_0 (1, .iconst 0, 1) (List.mem_of_getElem? (i := 1) rfl)),
  List.forall_mem_cons.mpr ⟨sd_oPutI 130 2 7 0 65 RX6 TX6 23 rfl ⟨by decide, by decide⟩ rfl (by decide) rfl (fun w h => iw_130 w (uz_6 w h)) rfl tyX6 tyX6_ok nmX6 rfl rfl (iw_130 _ zw353) (dk_130_0 (2, .putfield 65, 3) (List.mem_of_getElem? (i := 2) rfl)),
  List.forall_mem_cons.mpr ⟨sd_oLdR_n 130 5 0 0 rfl (dk_130_0 (5, .aload_n 0, 1) (List.mem_of_getElem? (i := 3) rfl)),
  List.forall_mem_cons.mpr ⟨sd_oLdI_n 130 6 1 1 rfl (dk_130_0 (6, .iload_n 1, 1) (List.mem_of_getElem? (i := 4) rfl)),
  List.forall_mem_cons.mpr ⟨sd_callV 130 7 96 1 2 134 7 [] (gdV hws_130 hws_96 zw402 zw403 zw404 zw358 zw401) hws_96 rfl (by decide +kernel) rfl rfl ⟨by decide +kernel, by decide +kernel, by decide +kernel⟩ ⟨by decide, by decide⟩ (catch_nil rfl) RX6 rfl TX6 23 rfl ⟨by decide, by decide⟩ (dk_130_0 (7, .invokevirtual 134, 3) (List.mem_of_getElem? (i := 5) rfl)),
  List.forall_mem_cons.mpr ⟨sd_if_ne 130 10 9 19 (by decide) (dk_130_0 (10, .ifCond .ne 9, 3) (List.mem_of_getElem? (i := 6) rfl)),
  List.forall_mem_cons.mpr ⟨sd_oLdR_n 130 13 0 0 rfl (dk_130_0 (13, .aload_n 0, 1) (List.mem_of_getElem? (i := 7) rfl)),
  List.forall_mem_cons.mpr ⟨sd_iconst 130 14 1 ⟨by decide, by decide⟩ (dk_130_0 (14, .iconst 1, 1) (List.mem_of_getElem? (i := 8) rfl)),
  List.forall_mem_cons.mpr ⟨sd_callV 130 15 91 1 2 82 7 [] (gdV hws_130 hws_91 zw362 zw363 zw364 zw358 zw361) hws_91 rfl (by decide +kernel) rfl rfl ⟨by decide +kernel, by decide +kernel, by decide +kernel⟩ ⟨by decide, by decide⟩ (catch_nil rfl) RX6 rfl TX6 23 rfl ⟨by decide, by decide⟩ (dk_130_0 (15, .invokevirtual 82, 3) (List.mem_of_getElem? (i := 9) rfl)),
  List.forall_mem_cons.mpr ⟨sd_iret 130 18 rfl (dk_130_0 (18, .ireturn, 1) (List.mem_of_getElem? (i := 10) rfl)),
  List.forall_mem_cons.mpr ⟨sd_oLdR_n 130 19 0 0 rfl (dk_130_0 (19, .aload_n 0, 1) (List.mem_of_getElem? (i := 11) rfl)),
  List.forall_mem_cons.mpr ⟨sd_oGetR 130 20 7 19 56 RX6 TX6 23 rfl ⟨by decide, by decide⟩ rfl (by decide) rfl (fun w h => iw_130 w (uz_6 w h)) rfl (iw_130 _ zw350) (dk_130_0 (20, .getfield 56, 3) (List.mem_of_getElem? (i := 12) rfl)),
  List.forall_mem_cons.mpr ⟨sd_oLdR_n 130 23 0 0 rfl (dk_130_0 (23, .aload_n 0, 1) (List.mem_of_getElem? (i := 13) rfl)),
  List.forall_mem_cons.mpr ⟨sd_oGetR 130 24 7 11 30 RX6 TX6 23 rfl ⟨by decide, by decide⟩ rfl (by decide) rfl (fun w h => iw_130 w (uz_6 w h)) rfl (iw_130 _ zw340) (dk_130_0 (24, .getfield 30, 3) (List.mem_of_getElem? (i := 14) rfl)),
  List.forall_mem_cons.mpr ⟨sd_oLdI_n 130 27 1 1 rfl (dk_130_0 (27, .iload_n 1, 1) (List.mem_of_getElem? (i := 15) rfl)),
  List.forall_mem_cons.mpr ⟨sd_iald 130 28 (dk_130_0 (28, .iaload, 1) (List.mem_of_getElem? (i := 16) rfl)),
  List.forall_mem_cons.mpr ⟨sd_aaldA 130 29 (dk_130_0 (29, .aaload, 1) (List.mem_of_getElem? (i := 17) rfl)),
  List.forall_mem_cons.mpr ⟨sd_oStR_n 130 30 3 3 rfl (by decide) (dk_130_0 (30, .astore_n 3, 1) (List.mem_of_getElem? (i := 18) rfl)),
  List.forall_mem_cons.mpr ⟨sd_oLdI_n 130 31 2 2 rfl (dk_130_0 (31, .iload_n 2, 1) (List.mem_of_getElem? (i := 19) rfl)),
  List.forall_mem_cons.mpr ⟨sd_iconst 130 32 0 ⟨by decide, by decide⟩ (dk_130_0 (32, .iconst 0, 1) (List.mem_of_getElem? (i := 20) rfl)),
  List.forall_mem_cons.mpr ⟨sd_oLdR_n 130 33 3 3 rfl (dk_130_0 (33, .aload_n 3, 1) (List.mem_of_getElem? (i := 21) rfl)),
  List.forall_mem_cons.mpr ⟨sd_alen 130 34 10 ⟨by decide, by decide⟩ (dk_130_0 (34, .arraylength, 1) (List.mem_of_getElem? (i := 22) rfl)),
  List.forall_mem_cons.mpr ⟨sd_iconst 130 35 1 ⟨by decide, by decide⟩ (dk_130_0 (35, .iconst 1, 1) (List.mem_of_getElem? (i := 23) rfl)),
  List.forall_mem_cons.mpr ⟨sd_isub 130 36 (dk_130_0 (36, .isub, 1) (List.mem_of_getElem? (i := 24) rfl)),
  List.forall_mem_cons.mpr ⟨sd_callS 130 37 94 3 3 72 [] (gdS hws_130 hws_94 zw356 zw357 zw358 zw355) hws_94 rfl (by decide +kernel) rfl rfl ⟨by decide +kernel, by decide +kernel, by decide +kernel⟩ ⟨by decide, by decide⟩ (catch_nil rfl) (dk_130_0 (37, .invokestatic 72, 3) (List.mem_of_getElem? (i := 25) rfl)),
  List.forall_mem_cons.mpr ⟨sd_if_eq 130 40 9 49 (by decide) (dk_130_0 (40, .ifCond .eq 9, 3) (List.mem_of_getElem? (i := 26) rfl)),
  List.forall_mem_cons.mpr ⟨sd_oLdR_n 130 43 3 3 rfl (dk_130_0 (43, .aload_n 3, 1) (List.mem_of_getElem? (i := 27) rfl)),
  List.forall_mem_cons.mpr ⟨sd_oLdI_n 130 44 2 2 rfl (dk_130_0 (44, .iload_n 2, 1) (List.mem_of_getElem? (i := 28) rfl)),
  List.forall_mem_cons.mpr ⟨sd_iald 130 45 (dk_130_0 (45, .iaload, 1) (List.mem_of_getElem? (i := 29) rfl)),
  List.forall_mem_cons.mpr ⟨sd_goto 130 46 4 50 (by decide) (dk_130_0 (46, .goto 4, 3) (List.mem_of_getElem? (i := 30) rfl)),
  List.forall_mem_cons.mpr ⟨sd_iconst 130 49 (-1) ⟨by decide, by decide⟩ (dk_130_0 (49, .iconst (-1), 1) (List.mem_of_getElem? (i := 31) rfl)),
  List.forall_mem_cons.mpr ⟨sd_iret 130 50 rfl (dk_130_0 (50, .ireturn, 1) (List.mem_of_getElem? (i := 32) rfl)),
  fun _ h => nomatch h⟩⟩⟩⟩⟩⟩⟩⟩⟩⟩⟩⟩⟩⟩⟩⟩⟩⟩⟩⟩⟩⟩⟩⟩⟩⟩⟩⟩⟩⟩⟩⟩⟩
def tb_130 : List (List (Nat × Op1)) := [tb_130_0]
theorem sm_130 : ∀ t ∈ tb_130, ∀ q ∈ t, SM GwP MdP D A l 130 q.1 q.2 := List.forall_mem_cons.mpr ⟨sm_130_0, fun _ h => nomatch h⟩
-- 131: MarginaliaModel.sees(II)Z
def dl_131_0 : List (Nat × Instr × Nat) := [(0, .aload_n 0, 1), (1, .iconst 0, 1), (2, .putfield 65, 3), (5, .aload_n 0, 1), (6, .iload_n 1, 1), (7, .invokevirtual 86, 3), (10, .ifCond .eq 20, 3), (13, .aload_n 0, 1), (14, .iload_n 2, 1), (15, .invokevirtual 134, 3), (18, .ifCond .eq 12, 3), (21, .aload_n 0, 1), (22, .iload_n 1, 1), (23, .iload_n 2, 1), (24, .invokevirtual 126, 3), (27, .goto 8, 3), (30, .aload_n 0, 1), (31, .iconst 1, 1), (32, .invokevirtual 140, 3), (35, .ireturn, 1)]
theorem dk_131_0 : ∀ q ∈ dl_131_0, decode (mCod (MdP 131)) q.1 = .ok q.2 := by
  rw [show mCod (MdP 131) = cX6_sees from rfl]
  decide +kernel
def tb_131_0 : List (Nat × Op1) := [(0, oLdR 0 1), (1, oCI 0 1), (2, oPutI 7 0), (5, oLdR 0 1), (6, oLdI 1 1), (7, oCallV 95 1 2 7 []), (10, oZeq 30), (13, oLdR 0 1), (14, oLdI 2 1), (15, oCallV 96 1 2 7 []), (18, oZeq 30), (21, oLdR 0 1), (22, oLdI 1 1), (23, oLdI 2 1), (24, oCallV 109 2 3 7 []), (27, oGoto 35), (30, oLdR 0 1), (31, oCI 1 1), (32, oCallV 92 1 2 7 []), (35, oRetZ)]
theorem sm_131_0 : ∀ q ∈ tb_131_0, SM GwP MdP D A l 131 q.1 q.2 :=
  List.forall_mem_cons.mpr ⟨sd_oLdR_n 131 0 0 0 rfl (dk_131_0 (0, .aload_n 0, 1) (List.mem_of_getElem? (i := 0) rfl)),
  List.forall_mem_cons.mpr ⟨sd_iconst 131 1 0 ⟨by decide, by decide⟩ (dk_131_0 (1, .iconst 0, 1) (List.mem_of_getElem? (i := 1) rfl)),
  List.forall_mem_cons.mpr ⟨sd_oPutI 131 2 7 0 65 RX6 TX6 23 rfl ⟨by decide, by decide⟩ rfl (by decide) rfl (fun w h => iw_131 w (uz_6 w h)) rfl tyX6 tyX6_ok nmX6 rfl rfl (iw_131 _ zw353) (dk_131_0 (2, .putfield 65, 3) (List.mem_of_getElem? (i := 2) rfl)),
  List.forall_mem_cons.mpr ⟨sd_oLdR_n 131 5 0 0 rfl (dk_131_0 (5, .aload_n 0, 1) (List.mem_of_getElem? (i := 3) rfl)),
  List.forall_mem_cons.mpr ⟨sd_oLdI_n 131 6 1 1 rfl (dk_131_0 (6, .iload_n 1, 1) (List.mem_of_getElem? (i := 4) rfl)),
  List.forall_mem_cons.mpr ⟨sd_callV 131 7 95 1 2 86 7 [] (gdV hws_131 hws_95 zw366 zw367 zw368 zw358 zw365) hws_95 rfl (by decide +kernel) rfl rfl ⟨by decide +kernel, by decide +kernel, by decide +kernel⟩ ⟨by decide, by decide⟩ (catch_nil rfl) RX6 rfl TX6 23 rfl ⟨by decide, by decide⟩ (dk_131_0 (7, .invokevirtual 86, 3) (List.mem_of_getElem? (i := 5) rfl)),
  List.forall_mem_cons.mpr ⟨sd_if_eq 131 10 20 30 (by decide) (dk_131_0 (10, .ifCond .eq 20, 3) (List.mem_of_getElem? (i := 6) rfl)),
  List.forall_mem_cons.mpr ⟨sd_oLdR_n 131 13 0 0 rfl (dk_131_0 (13, .aload_n 0, 1) (List.mem_of_getElem? (i := 7) rfl)),
  List.forall_mem_cons.mpr ⟨sd_oLdI_n 131 14 2 2 rfl (dk_131_0 (14, .iload_n 2, 1) (List.mem_of_getElem? (i := 8) rfl)),
  List.forall_mem_cons.mpr ⟨sd_callV 131 15 96 1 2 134 7 [] (gdV hws_131 hws_96 zw402 zw403 zw404 zw358 zw401) hws_96 rfl (by decide +kernel) rfl rfl ⟨by decide +kernel, by decide +kernel, by decide +kernel⟩ ⟨by decide, by decide⟩ (catch_nil rfl) RX6 rfl TX6 23 rfl ⟨by decide, by decide⟩ (dk_131_0 (15, .invokevirtual 134, 3) (List.mem_of_getElem? (i := 9) rfl)),
  List.forall_mem_cons.mpr ⟨sd_if_eq 131 18 12 30 (by decide) (dk_131_0 (18, .ifCond .eq 12, 3) (List.mem_of_getElem? (i := 10) rfl)),
  List.forall_mem_cons.mpr ⟨sd_oLdR_n 131 21 0 0 rfl (dk_131_0 (21, .aload_n 0, 1) (List.mem_of_getElem? (i := 11) rfl)),
  List.forall_mem_cons.mpr ⟨sd_oLdI_n 131 22 1 1 rfl (dk_131_0 (22, .iload_n 1, 1) (List.mem_of_getElem? (i := 12) rfl)),
  List.forall_mem_cons.mpr ⟨sd_oLdI_n 131 23 2 2 rfl (dk_131_0 (23, .iload_n 2, 1) (List.mem_of_getElem? (i := 13) rfl)),
  List.forall_mem_cons.mpr ⟨sd_callV 131 24 109 2 3 126 7 [] (gdV hws_131 hws_109 zw394 zw395 zw396 zw358 zw393) hws_109 rfl (by decide +kernel) rfl rfl ⟨by decide +kernel, by decide +kernel, by decide +kernel⟩ ⟨by decide, by decide⟩ (catch_nil rfl) RX6 rfl TX6 23 rfl ⟨by decide, by decide⟩ (dk_131_0 (24, .invokevirtual 126, 3) (List.mem_of_getElem? (i := 14) rfl)),
  List.forall_mem_cons.mpr ⟨sd_goto 131 27 8 35 (by decide) (dk_131_0 (27, .goto 8, 3) (List.mem_of_getElem? (i := 15) rfl)),
  List.forall_mem_cons.mpr ⟨sd_oLdR_n 131 30 0 0 rfl (dk_131_0 (30, .aload_n 0, 1) (List.mem_of_getElem? (i := 16) rfl)),
  List.forall_mem_cons.mpr ⟨sd_iconst 131 31 1 ⟨by decide, by decide⟩ (dk_131_0 (31, .iconst 1, 1) (List.mem_of_getElem? (i := 17) rfl)),
  List.forall_mem_cons.mpr ⟨sd_callV 131 32 92 1 2 140 7 [] (gdV hws_131 hws_92 zw410 zw411 zw412 zw358 zw409) hws_92 rfl (by decide +kernel) rfl rfl ⟨by decide +kernel, by decide +kernel, by decide +kernel⟩ ⟨by decide, by decide⟩ (catch_nil rfl) RX6 rfl TX6 23 rfl ⟨by decide, by decide⟩ (dk_131_0 (32, .invokevirtual 140, 3) (List.mem_of_getElem? (i := 18) rfl)),
  List.forall_mem_cons.mpr ⟨sd_zret 131 35 rfl (dk_131_0 (35, .ireturn, 1) (List.mem_of_getElem? (i := 19) rfl)),
  fun _ h => nomatch h⟩⟩⟩⟩⟩⟩⟩⟩⟩⟩⟩⟩⟩⟩⟩⟩⟩⟩⟩⟩
def tb_131 : List (List (Nat × Op1)) := [tb_131_0]
theorem sm_131 : ∀ t ∈ tb_131, ∀ q ∈ t, SM GwP MdP D A l 131 q.1 q.2 := List.forall_mem_cons.mpr ⟨sm_131_0, fun _ h => nomatch h⟩
-- 132: MarginaliaModel.tellOrder(I)V
def dl_132_0 : List (Nat × Instr × Nat) := [(0, .aload_n 0, 1), (1, .iconst 0, 1), (2, .putfield 170, 3), (5, .iload_n 1, 1), (6, .istore_n 2, 1), (7, .iload_n 2, 1), (8, .iconst (-1), 1), (9, .if_icmp .eq 29, 3), (12, .aload_n 0, 1), (13, .getfield 62, 3), (16, .aload_n 0, 1), (17, .dup, 1), (18, .getfield 170, 3), (21, .dup_x1, 1), (22, .iconst 1, 1), (23, .iadd, 1), (24, .putfield 170, 3), (27, .iload_n 2, 1), (28, .iastore, 1), (29, .aload_n 0, 1), (30, .iload_n 2, 1), (31, .invokevirtual 173, 3), (34, .istore_n 2, 1), (35, .goto (-28), 3), (38, .return_, 1)]
theorem dk_132_0 : ∀ q ∈ dl_132_0, decode (mCod (MdP 132)) q.1 = .ok q.2 := by
  rw [show mCod (MdP 132) = cX6_tellOrder from rfl]
  decide +kernel
def tb_132_0 : List (Nat × Op1) := [(0, oLdR 0 1), (1, oCI 0 1), (2, oPutI 7 21), (5, oLdI 1 1), (6, oStI 2 1), (7, oLdI 2 1), (8, oCI (-1) 1), (9, oCeq 38), (12, oLdR 0 1), (13, oGetR 7 22), (16, oLdR 0 1), (17, oDup), (18, oGetI 7 21), (21, oDupX1), (22, oCI 1 1), (23, oAdd), (24, oPutI 7 21), (27, oLdI 2 1), (28, oAStI), (29, oLdR 0 1), (30, oLdI 2 1), (31, oCallV 133 1 4 7 []), (34, oStI 2 1), (35, oGoto 7), (38, oRetV)]
theorem sm_132_0 : ∀ q ∈ tb_132_0, SM GwP MdP D A l 132 q.1 q.2 :=
  List.forall_mem_cons.mpr ⟨sd_oLdR_n 132 0 0 0 rfl (dk_132_0 (0, .aload_n 0, 1) (List.mem_of_getElem? (i := 0) rfl)),
  List.forall_mem_cons.mpr ⟨sd_iconst 132 1 0 ⟨by decide, by decide⟩ (dk_132_0 (1, .iconst 0, 1) (List.mem_of_getElem? (i := 1) rfl)),
  List.forall_mem_cons.mpr ⟨sd_oPutI 132 2 7 21 170 RX6 TX6 23 rfl ⟨by decide, by decide⟩ rfl (by decide) rfl (fun w h => iw_132 w (uz_6 w h)) rfl tyX6 tyX6_ok nmX6 rfl rfl (iw_132 _ zw448) (dk_132_0 (2, .putfield 170, 3) (List.mem_of_getElem? (i := 2) rfl)),
  List.forall_mem_cons.mpr ⟨sd_oLdI_n 132 5 1 1 rfl (dk_132_0 (5, .iload_n 1, 1) (List.mem_of_getElem? (i := 3) rfl)),
  List.forall_mem_cons.mpr ⟨sd_oStI_n 132 6 2 2 rfl (by decide) (dk_132_0 (6, .istore_n 2, 1) (List.mem_of_getElem? (i := 4) rfl)),
  List.forall_mem_cons.mpr ⟨sd_oLdI_n 132 7 2 2 rfl (dk_132_0 (7, .iload_n 2, 1) (List.mem_of_getElem? (i := 5) rfl)),
  List.forall_mem_cons.mpr ⟨sd_iconst 132 8 (-1) ⟨by decide, by decide⟩ (dk_132_0 (8, .iconst (-1), 1) (List.mem_of_getElem? (i := 6) rfl)),
  List.forall_mem_cons.mpr ⟨sd_icmp_eq 132 9 29 38 (by decide) (dk_132_0 (9, .if_icmp .eq 29, 3) (List.mem_of_getElem? (i := 7) rfl)),
  List.forall_mem_cons.mpr ⟨sd_oLdR_n 132 12 0 0 rfl (dk_132_0 (12, .aload_n 0, 1) (List.mem_of_getElem? (i := 8) rfl)),
  List.forall_mem_cons.mpr ⟨sd_oGetR 132 13 7 22 62 RX6 TX6 23 rfl ⟨by decide, by decide⟩ rfl (by decide) rfl (fun w h => iw_132 w (uz_6 w h)) rfl (iw_132 _ zw352) (dk_132_0 (13, .getfield 62, 3) (List.mem_of_getElem? (i := 9) rfl)),
  List.forall_mem_cons.mpr ⟨sd_oLdR_n 132 16 0 0 rfl (dk_132_0 (16, .aload_n 0, 1) (List.mem_of_getElem? (i := 10) rfl)),
  List.forall_mem_cons.mpr ⟨sd_dup 132 17 (dk_132_0 (17, .dup, 1) (List.mem_of_getElem? (i := 11) rfl)),
  List.forall_mem_cons.mpr ⟨sd_oGetI 132 18 7 21 170 RX6 TX6 23 rfl ⟨by decide, by decide⟩ rfl (by decide) rfl (fun w h => iw_132 w (uz_6 w h)) rfl (iw_132 _ zw448) (dk_132_0 (18, .getfield 170, 3) (List.mem_of_getElem? (i := 12) rfl)),
  List.forall_mem_cons.mpr ⟨sd_dup_x1 132 21 (dk_132_0 (21, .dup_x1, 1) (List.mem_of_getElem? (i := 13) rfl)),
  List.forall_mem_cons.mpr ⟨sd_iconst 132 22 1 ⟨by decide, by decide⟩ (dk_132_0 (22, .iconst 1, 1) (List.mem_of_getElem? (i := 14) rfl)),
  List.forall_mem_cons.mpr ⟨sd_iadd 132 23 (dk_132_0 (23, .iadd, 1) (List.mem_of_getElem? (i := 15) rfl)),
  List.forall_mem_cons.mpr ⟨sd_oPutI 132 24 7 21 170 RX6 TX6 23 rfl ⟨by decide, by decide⟩ rfl (by decide) rfl (fun w h => iw_132 w (uz_6 w h)) rfl tyX6 tyX6_ok nmX6 rfl rfl (iw_132 _ zw448) (dk_132_0 (24, .putfield 170, 3) (List.mem_of_getElem? (i := 16) rfl)),
  List.forall_mem_cons.mpr ⟨sd_oLdI_n 132 27 2 2 rfl (dk_132_0 (27, .iload_n 2, 1) (List.mem_of_getElem? (i := 17) rfl)),
  List.forall_mem_cons.mpr ⟨sd_iast 132 28 (dk_132_0 (28, .iastore, 1) (List.mem_of_getElem? (i := 18) rfl)),
  List.forall_mem_cons.mpr ⟨sd_oLdR_n 132 29 0 0 rfl (dk_132_0 (29, .aload_n 0, 1) (List.mem_of_getElem? (i := 19) rfl)),
  List.forall_mem_cons.mpr ⟨sd_oLdI_n 132 30 2 2 rfl (dk_132_0 (30, .iload_n 2, 1) (List.mem_of_getElem? (i := 20) rfl)),
  List.forall_mem_cons.mpr ⟨sd_callV 132 31 133 1 4 173 7 [] (gdV hws_132 hws_133 zw450 zw451 zw452 zw358 zw449) hws_133 rfl (by decide +kernel) rfl rfl ⟨by decide +kernel, by decide +kernel, by decide +kernel⟩ ⟨by decide, by decide⟩ (catch_nil rfl) RX6 rfl TX6 23 rfl ⟨by decide, by decide⟩ (dk_132_0 (31, .invokevirtual 173, 3) (List.mem_of_getElem? (i := 21) rfl)),
  List.forall_mem_cons.mpr ⟨sd_oStI_n 132 34 2 2 rfl (by decide) (dk_132_0 (34, .istore_n 2, 1) (List.mem_of_getElem? (i := 22) rfl)),
  List.forall_mem_cons.mpr ⟨sd_goto 132 35 (-28) 7 (by decide) (dk_132_0 (35, .goto (-28), 3) (List.mem_of_getElem? (i := 23) rfl)),
  List.forall_mem_cons.mpr ⟨sd_vret 132 38 rfl (dk_132_0 (38, .return_, 1) (List.mem_of_getElem? (i := 24) rfl)),
  fun _ h => nomatch h⟩⟩⟩⟩⟩⟩⟩⟩⟩⟩⟩⟩⟩⟩⟩⟩⟩⟩⟩⟩⟩⟩⟩⟩⟩
def tb_132 : List (List (Nat × Op1)) := [tb_132_0]
theorem sm_132 : ∀ t ∈ tb_132, ∀ q ∈ t, SM GwP MdP D A l 132 q.1 q.2 := List.forall_mem_cons.mpr ⟨sm_132_0, fun _ h => nomatch h⟩
-- 133: MarginaliaModel.behind(I)I
def dl_133_0 : List (Nat × Instr × Nat) := [(0, .aload_n 0, 1), (1, .iload_n 1, 1), (2, .iload_n 1, 1), (3, .invokevirtual 176, 3), (6, .istore_n 2, 1), (7, .iload_n 1, 1), (8, .istore_n 3, 1), (9, .iload_n 2, 1), (10, .iconst (-1), 1), (11, .if_icmp .ne 35, 3), (14, .aload_n 0, 1), (15, .getfield 27, 3), (18, .iload_n 3, 1), (19, .iaload, 1), (20, .iconst (-1), 1), (21, .if_icmp .eq 25, 3), (24, .aload_n 0, 1), (25, .aload_n 0, 1), (26, .getfield 27, 3), (29, .iload_n 3, 1), (30, .iaload, 1), (31, .iload_n 3, 1), (32, .invokevirtual 176, 3), (35, .istore_n 2, 1), (36, .aload_n 0, 1), (37, .getfield 27, 3), (40, .iload_n 3, 1), (41, .iaload, 1), (42, .istore_n 3, 1), (43, .goto (-34), 3), (46, .iload_n 2, 1), (47, .ireturn, 1)]
theorem dk_133_0 : ∀ q ∈ dl_133_0, decode (mCod (MdP 133)) q.1 = .ok q.2 := by
  rw [show mCod (MdP 133) = cX6_behind from rfl]
  decide +kernel
def tb_133_0 : List (Nat × Op1) := [(0, oLdR 0 1), (1, oLdI 1 1), (2, oLdI 1 1), (3, oCallV 134 2 4 7 []), (6, oStI 2 1), (7, oLdI 1 1), (8, oStI 3 1), (9, oLdI 2 1), (10, oCI (-1) 1), (11, oCne 46), (14, oLdR 0 1), (15, oGetR 7 10), (18, oLdI 3 1), (19, oALdI 10), (20, oCI (-1) 1), (21, oCeq 46), (24, oLdR 0 1), (25, oLdR 0 1), (26, oGetR 7 10), (29, oLdI 3 1), (30, oALdI 10), (31, oLdI 3 1), (32, oCallV 134 2 4 7 []), (35, oStI 2 1), (36, oLdR 0 1), (37, oGetR 7 10), (40, oLdI 3 1), (41, oALdI 10), (42, oStI 3 1), (43, oGoto 9), (46, oLdI 2 1), (47, oRetI)]
theorem sm_133_0 : ∀ q ∈ tb_133_0, SM GwP MdP D A l 133 q.1 q.2 :=
  List.forall_mem_cons.mpr ⟨sd_oLdR_n 133 0 0 0 rfl (dk_133_0 (0, .aload_n 0, 1) (List.mem_of_getElem? (i := 0) rfl)),
  List.forall_mem_cons.mpr ⟨sd_oLdI_n 133 1 1 1 rfl (dk_133_0 (1, .iload_n 1, 1) (List.mem_of_getElem? (i := 1) rfl)),
  List.forall_mem_cons.mpr ⟨sd_oLdI_n 133 2 1 1 rfl (dk_133_0 (2, .iload_n 1, 1) (List.mem_of_getElem? (i := 2) rfl)),
  List.forall_mem_cons.mpr ⟨sd_callV 133 3 134 2 4 176 7 [] (gdV hws_133 hws_134 zw454 zw455 zw456 zw358 zw453) hws_134 rfl (by decide +kernel) rfl rfl ⟨by decide +kernel, by decide +kernel, by decide +kernel⟩ ⟨by decide, by decide⟩ (catch_nil rfl) RX6 rfl TX6 23 rfl ⟨by decide, by decide⟩ (dk_133_0 (3, .invokevirtual 176, 3) (List.mem_of_getElem? (i := 3) rfl)),
  List.forall_mem_cons.mpr ⟨sd_oStI_n 133 6 2 2 rfl (by decide) (dk_133_0 (6, .istore_n 2, 1) (List.mem_of_getElem? (i := 4) rfl)),
  List.forall_mem_cons.mpr ⟨sd_oLdI_n 133 7 1 1 rfl (dk_133_0 (7, .iload_n 1, 1) (List.mem_of_getElem? (i := 5) rfl)),
  List.forall_mem_cons.mpr ⟨sd_oStI_n 133 8 3 3 rfl (by decide) (dk_133_0 (8, .istore_n 3, 1) (List.mem_of_getElem? (i := 6) rfl)),
  List.forall_mem_cons.mpr ⟨sd_oLdI_n 133 9 2 2 rfl (dk_133_0 (9, .iload_n 2, 1) (List.mem_of_getElem? (i := 7) rfl)),
  List.forall_mem_cons.mpr ⟨sd_iconst 133 10 (-1) ⟨by decide, by decide⟩ (dk_133_0 (10, .iconst (-1), 1) (List.mem_of_getElem? (i := 8) rfl)),
  List.forall_mem_cons.mpr ⟨sd_icmp_ne 133 11 35 46 (by decide) (dk_133_0 (11, .if_icmp .ne 35, 3) (List.mem_of_getElem? (i := 9) rfl)),
  List.forall_mem_cons.mpr ⟨sd_oLdR_n 133 14 0 0 rfl (dk_133_0 (14, .aload_n 0, 1) (List.mem_of_getElem? (i := 10) rfl)),
  List.forall_mem_cons.mpr ⟨sd_oGetR 133 15 7 10 27 RX6 TX6 23 rfl ⟨by decide, by decide⟩ rfl (by decide) rfl (fun w h => iw_133 w (uz_6 w h)) rfl (iw_133 _ zw339) (dk_133_0 (15, .getfield 27, 3) (List.mem_of_getElem? (i := 11) rfl)),
  List.forall_mem_cons.mpr ⟨sd_oLdI_n 133 18 3 3 rfl (dk_133_0 (18, .iload_n 3, 1) (List.mem_of_getElem? (i := 12) rfl)),
  List.forall_mem_cons.mpr ⟨sd_iald 133 19 (dk_133_0 (19, .iaload, 1) (List.mem_of_getElem? (i := 13) rfl)),
  List.forall_mem_cons.mpr ⟨sd_iconst 133 20 (-1) ⟨by decide, by decide⟩ (dk_133_0 (20, .iconst (-1), 1) (List.mem_of_getElem? (i := 14) rfl)),
  List.forall_mem_cons.mpr ⟨sd_icmp_eq 133 21 25 46 (by decide) (dk_133_0 (21, .if_icmp .eq 25, 3) (List.mem_of_getElem? (i := 15) rfl)),
  List.forall_mem_cons.mpr ⟨sd_oLdR_n 133 24 0 0 rfl (dk_133_0 (24, .aload_n 0, 1) (List.mem_of_getElem? (i := 16) rfl)),
  List.forall_mem_cons.mpr ⟨sd_oLdR_n 133 25 0 0 rfl (dk_133_0 (25, .aload_n 0, 1) (List.mem_of_getElem? (i := 17) rfl)),
  List.forall_mem_cons.mpr ⟨sd_oGetR 133 26 7 10 27 RX6 TX6 23 rfl ⟨by decide, by decide⟩ rfl (by decide) rfl (fun w h => iw_133 w (uz_6 w h)) rfl (iw_133 _ zw339) (dk_133_0 (26, .getfield 27, 3) (List.mem_of_getElem? (i := 18) rfl)),
  List.forall_mem_cons.mpr ⟨sd_oLdI_n 133 29 3 3 rfl (dk_133_0 (29, .iload_n 3, 1) (List.mem_of_getElem? (i := 19) rfl)),
  List.forall_mem_cons.mpr ⟨sd_iald 133 30 (dk_133_0 (30, .iaload, 1) (List.mem_of_getElem? (i := 20) rfl)),
  List.forall_mem_cons.mpr ⟨sd_oLdI_n 133 31 3 3 rfl (dk_133_0 (31, .iload_n 3, 1) (List.mem_of_getElem? (i := 21) rfl)),
  List.forall_mem_cons.mpr ⟨sd_callV 133 32 134 2 4 176 7 [] (gdV hws_133 hws_134 zw454 zw455 zw456 zw358 zw453) hws_134 rfl (by decide +kernel) rfl rfl ⟨by decide +kernel, by decide +kernel, by decide +kernel⟩ ⟨by decide, by decide⟩ (catch_nil rfl) RX6 rfl TX6 23 rfl ⟨by decide, by decide⟩ (dk_133_0 (32, .invokevirtual 176, 3) (List.mem_of_getElem? (i := 22) rfl)),
  List.forall_mem_cons.mpr ⟨sd_oStI_n 133 35 2 2 rfl (by decide) (dk_133_0 (35, .istore_n 2, 1) (List.mem_of_getElem? (i := 23) rfl)),
  List.forall_mem_cons.mpr ⟨sd_oLdR_n 133 36 0 0 rfl (dk_133_0 (36, .aload_n 0, 1) (List.mem_of_getElem? (i := 24) rfl)),
  List.forall_mem_cons.mpr ⟨sd_oGetR 133 37 7 10 27 RX6 TX6 23 rfl ⟨by decide, by decide⟩ rfl (by decide) rfl (fun w h => iw_133 w (uz_6 w h)) rfl (iw_133 _ zw339) (dk_133_0 (37, .getfield 27, 3) (List.mem_of_getElem? (i := 25) rfl)),
  List.forall_mem_cons.mpr ⟨sd_oLdI_n 133 40 3 3 rfl (dk_133_0 (40, .iload_n 3, 1) (List.mem_of_getElem? (i := 26) rfl)),
  List.forall_mem_cons.mpr ⟨sd_iald 133 41 (dk_133_0 (41, .iaload, 1) (List.mem_of_getElem? (i := 27) rfl)),
  List.forall_mem_cons.mpr ⟨sd_oStI_n 133 42 3 3 rfl (by decide) (dk_133_0 (42, .istore_n 3, 1) (List.mem_of_getElem? (i := 28) rfl)),
  List.forall_mem_cons.mpr ⟨sd_goto 133 43 (-34) 9 (by decide) (dk_133_0 (43, .goto (-34), 3) (List.mem_of_getElem? (i := 29) rfl)),
  List.forall_mem_cons.mpr ⟨sd_oLdI_n 133 46 2 2 rfl (dk_133_0 (46, .iload_n 2, 1) (List.mem_of_getElem? (i := 30) rfl)),
  List.forall_mem_cons.mpr ⟨sd_iret 133 47 rfl (dk_133_0 (47, .ireturn, 1) (List.mem_of_getElem? (i := 31) rfl)),
  fun _ h => nomatch h⟩⟩⟩⟩⟩⟩⟩⟩⟩⟩⟩⟩⟩⟩⟩⟩⟩⟩⟩⟩⟩⟩⟩⟩⟩⟩⟩⟩⟩⟩⟩⟩
def tb_133 : List (List (Nat × Op1)) := [tb_133_0]
theorem sm_133 : ∀ t ∈ tb_133, ∀ q ∈ t, SM GwP MdP D A l 133 q.1 q.2 := List.forall_mem_cons.mpr ⟨sm_133_0, fun _ h => nomatch h⟩
-- 134: MarginaliaModel.reply(II)I
def dl_134_0 : List (Nat × Instr × Nat) := [(0, .iload_n 2, 1), (1, .iconst 1, 1), (2, .iadd, 1), (3, .istore_n 3, 1), (4, .iload_n 3, 1), (5, .aload_n 0, 1), (6, .getfield 76, 3), (9, .if_icmp .ge 31, 3), (12, .aload_n 0, 1), (13, .getfield 27, 3), (16, .iload_n 3, 1), (17, .iaload, 1), (18, .iload_n 1, 1), (19, .if_icmp .ne 15, 3), (22, .aload_n 0, 1), (23, .getfield 33, 3), (26, .iload_n 3, 1), (27, .iaload, 1), (28, .iconst 2, 1), (29, .if_icmp .eq 5, 3), (32, .iload_n 3, 1), (33, .ireturn, 1), (34, .iinc 3 1, 3), (37, .goto (-33), 3), (40, .iconst (-1), 1), (41, .ireturn, 1)]
theorem dk_134_0 : ∀ q ∈ dl_134_0, decode (mCod (MdP 134)) q.1 = .ok q.2 := by
  rw [show mCod (MdP 134) = cX6_reply_ from rfl]
  decide +kernel
def tb_134_0 : List (Nat × Op1) := [(0, oLdI 2 1), (1, oCI 1 1), (2, oAdd), (3, oStI 3 1), (4, oLdI 3 1), (5, oLdR 0 1), (6, oGetI 7 7), (9, oCge 40), (12, oLdR 0 1), (13, oGetR 7 10), (16, oLdI 3 1), (17, oALdI 10), (18, oLdI 1 1), (19, oCne 34), (22, oLdR 0 1), (23, oGetR 7 12), (26, oLdI 3 1), (27, oALdI 10), (28, oCI 2 1), (29, oCeq 34), (32, oLdI 3 1), (33, oRetI), (34, oInc 3 1), (37, oGoto 4), (40, oCI (-1) 1), (41, oRetI)]
theorem sm_134_0 : ∀ q ∈ tb_134_0, SM GwP MdP D A l 134 q.1 q.2 :=
  List.forall_mem_cons.mpr ⟨sd_oLdI_n 134 0 2 2 rfl (dk_134_0 (0, .iload_n 2, 1) (List.mem_of_getElem? (i := 0) rfl)),
  List.forall_mem_cons.mpr ⟨sd_iconst 134 1 1 ⟨by decide, by decide⟩ (dk_134_0 (1, .iconst 1, 1) (List.mem_of_getElem? (i := 1) rfl)),
  List.forall_mem_cons.mpr ⟨sd_iadd 134 2 (dk_134_0 (2, .iadd, 1) (List.mem_of_getElem? (i := 2) rfl)),
  List.forall_mem_cons.mpr ⟨sd_oStI_n 134 3 3 3 rfl (by decide) (dk_134_0 (3, .istore_n 3, 1) (List.mem_of_getElem? (i := 3) rfl)),
  List.forall_mem_cons.mpr ⟨sd_oLdI_n 134 4 3 3 rfl (dk_134_0 (4, .iload_n 3, 1) (List.mem_of_getElem? (i := 4) rfl)),
  List.forall_mem_cons.mpr ⟨sd_oLdR_n 134 5 0 0 rfl (dk_134_0 (5, .aload_n 0, 1) (List.mem_of_getElem? (i := 5) rfl)),
  List.forall_mem_cons.mpr ⟨sd_oGetI 134 6 7 7 76 RX6 TX6 23 rfl ⟨by decide, by decide⟩ rfl (by decide) rfl (fun w h => iw_134 w (uz_6 w h)) rfl (iw_134 _ zw359) (dk_134_0 (6, .getfield 76, 3) (List.mem_of_getElem? (i := 6) rfl)),
  List.forall_mem_cons.mpr ⟨sd_icmp_ge 134 9 31 40 (by decide) (dk_134_0 (9, .if_icmp .ge 31, 3) (List.mem_of_getElem? (i := 7) rfl)),
  List.forall_mem_cons.mpr ⟨sd_oLdR_n 134 12 0 0 rfl (dk_134_0 (12, .aload_n 0, 1) (List.mem_of_getElem? (i := 8) rfl)),
  List.forall_mem_cons.mpr ⟨sd_oGetR 134 13 7 10 27 RX6 TX6 23 rfl ⟨by decide, by decide⟩ rfl (by decide) rfl (fun w h => iw_134 w (uz_6 w h)) rfl (iw_134 _ zw339) (dk_134_0 (13, .getfield 27, 3) (List.mem_of_getElem? (i := 9) rfl)),
  List.forall_mem_cons.mpr ⟨sd_oLdI_n 134 16 3 3 rfl (dk_134_0 (16, .iload_n 3, 1) (List.mem_of_getElem? (i := 10) rfl)),
  List.forall_mem_cons.mpr ⟨sd_iald 134 17 (dk_134_0 (17, .iaload, 1) (List.mem_of_getElem? (i := 11) rfl)),
  List.forall_mem_cons.mpr ⟨sd_oLdI_n 134 18 1 1 rfl (dk_134_0 (18, .iload_n 1, 1) (List.mem_of_getElem? (i := 12) rfl)),
  List.forall_mem_cons.mpr ⟨sd_icmp_ne 134 19 15 34 (by decide) (dk_134_0 (19, .if_icmp .ne 15, 3) (List.mem_of_getElem? (i := 13) rfl)),
  List.forall_mem_cons.mpr ⟨sd_oLdR_n 134 22 0 0 rfl (dk_134_0 (22, .aload_n 0, 1) (List.mem_of_getElem? (i := 14) rfl)),
  List.forall_mem_cons.mpr ⟨sd_oGetR 134 23 7 12 33 RX6 TX6 23 rfl ⟨by decide, by decide⟩ rfl (by decide) rfl (fun w h => iw_134 w (uz_6 w h)) rfl (iw_134 _ zw341) (dk_134_0 (23, .getfield 33, 3) (List.mem_of_getElem? (i := 15) rfl)),
  List.forall_mem_cons.mpr ⟨sd_oLdI_n 134 26 3 3 rfl (dk_134_0 (26, .iload_n 3, 1) (List.mem_of_getElem? (i := 16) rfl)),
  List.forall_mem_cons.mpr ⟨sd_iald 134 27 (dk_134_0 (27, .iaload, 1) (List.mem_of_getElem? (i := 17) rfl)),
  List.forall_mem_cons.mpr ⟨sd_iconst 134 28 2 ⟨by decide, by decide⟩ (dk_134_0 (28, .iconst 2, 1) (List.mem_of_getElem? (i := 18) rfl)),
  List.forall_mem_cons.mpr ⟨sd_icmp_eq 134 29 5 34 (by decide) (dk_134_0 (29, .if_icmp .eq 5, 3) (List.mem_of_getElem? (i := 19) rfl)),
  List.forall_mem_cons.mpr ⟨sd_oLdI_n 134 32 3 3 rfl (dk_134_0 (32, .iload_n 3, 1) (List.mem_of_getElem? (i := 20) rfl)),
  List.forall_mem_cons.mpr ⟨sd_iret 134 33 rfl (dk_134_0 (33, .ireturn, 1) (List.mem_of_getElem? (i := 21) rfl)),
  List.forall_mem_cons.mpr ⟨sd_iinc 134 34 3 1 (by decide) (dk_134_0 (34, .iinc 3 1, 3) (List.mem_of_getElem? (i := 22) rfl)),
  List.forall_mem_cons.mpr ⟨sd_goto 134 37 (-33) 4 (by decide) (dk_134_0 (37, .goto (-33), 3) (List.mem_of_getElem? (i := 23) rfl)),
  List.forall_mem_cons.mpr ⟨sd_iconst 134 40 (-1) ⟨by decide, by decide⟩ (dk_134_0 (40, .iconst (-1), 1) (List.mem_of_getElem? (i := 24) rfl)),
  List.forall_mem_cons.mpr ⟨sd_iret 134 41 rfl (dk_134_0 (41, .ireturn, 1) (List.mem_of_getElem? (i := 25) rfl)),
  fun _ h => nomatch h⟩⟩⟩⟩⟩⟩⟩⟩⟩⟩⟩⟩⟩⟩⟩⟩⟩⟩⟩⟩⟩⟩⟩⟩⟩⟩
def tb_134 : List (List (Nat × Op1)) := [tb_134_0]
theorem sm_134 : ∀ t ∈ tb_134, ∀ q ∈ t, SM GwP MdP D A l 134 q.1 q.2 := List.forall_mem_cons.mpr ⟨sm_134_0, fun _ h => nomatch h⟩
-- 135: MarginaliaModel.thread(II)I
def dl_135_0 : List (Nat × Instr × Nat) := [(0, .aload_n 0, 1), (1, .iconst 0, 1), (2, .putfield 65, 3), (5, .aload_n 0, 1), (6, .iload_n 1, 1), (7, .invokevirtual 134, 3), (10, .ifCond .ne 9, 3), (13, .aload_n 0, 1), (14, .iconst 1, 1), (15, .invokevirtual 82, 3), (18, .ireturn, 1), (19, .aload_n 0, 1), (20, .aload_n 0, 1), (21, .getfield 30, 3), (24, .iload_n 1, 1), (25, .iaload, 1), (26, .invokevirtual 179, 3), (29, .iload_n 2, 1), (30, .iconst 0, 1), (31, .aload_n 0, 1), (32, .getfield 170, 3), (35, .iconst 1, 1), (36, .isub, 1), (37, .invokestatic 72, 3), (40, .ifCond .eq 12, 3), (43, .aload_n 0, 1), (44, .getfield 62, 3), (47, .iload_n 2, 1), (48, .iaload, 1), (49, .goto 4, 3), (52, .iconst (-1), 1), (53, .ireturn, 1)]
theorem dk_135_0 : ∀ q ∈ dl_135_0, decode (mCod (MdP 135)) q.1 = .ok q.2 := by
  rw [show mCod (MdP 135) = cX6_thread from rfl]
  decide +kernel
def tb_135_0 : List (Nat × Op1) := [(0, oLdR 0 1), (1, oCI 0 1), (2, oPutI 7 0), (5, oLdR 0 1), (6, oLdI 1 1), (7, oCallV 96 1 2 7 []), (10, oZne 19), (13, oLdR 0 1), (14, oCI 1 1), (15, oCallV 91 1 2 7 []), (18, oRetI), (19, oLdR 0 1), (20, oLdR 0 1), (21, oGetR 7 11), (24, oLdI 1 1), (25, oALdI 10), (26, oCallV 132 1 3 7 []), (29, oLdI 2 1), (30, oCI 0 1), (31, oLdR 0 1), (32, oGetI 7 21), (35, oCI 1 1), (36, oSub), (37, oCallS 94 3 3 []), (40, oZeq 52), (43, oLdR 0 1), (44, oGetR 7 22), (47, oLdI 2 1), (48, oALdI 10), (49, oGoto 53), (52, oCI (-1) 1), (53, oRetI)]
theorem sm_135_0 : ∀ q ∈ tb_135_0, SM GwP MdP D A l 135 q.1 q.2 :=
  List.forall_mem_cons.mpr ⟨sd_oLdR_n 135 0 0 0 rfl (dk_135_0 (0, .aload_n 0, 1) (List.mem_of_getElem? (i := 0) rfl)),
  List.forall_mem_cons.mpr ⟨sd_iconst 135 1 0 ⟨by decide, by decide⟩ (dk_135_0 (1, .iconst 0, 1) (List.mem_of_getElem? (i := 1) rfl)),
  List.forall_mem_cons.mpr ⟨sd_oPutI 135 2 7 0 65 RX6 TX6 23 rfl ⟨by decide, by decide⟩ rfl (by decide) rfl (fun w h => iw_135 w (uz_6 w h)) rfl tyX6 tyX6_ok nmX6 rfl rfl (iw_135 _ zw353) (dk_135_0 (2, .putfield 65, 3) (List.mem_of_getElem? (i := 2) rfl)),
  List.forall_mem_cons.mpr ⟨sd_oLdR_n 135 5 0 0 rfl (dk_135_0 (5, .aload_n 0, 1) (List.mem_of_getElem? (i := 3) rfl)),
  List.forall_mem_cons.mpr ⟨sd_oLdI_n 135 6 1 1 rfl (dk_135_0 (6, .iload_n 1, 1) (List.mem_of_getElem? (i := 4) rfl)),
  List.forall_mem_cons.mpr ⟨sd_callV 135 7 96 1 2 134 7 [] (gdV hws_135 hws_96 zw402 zw403 zw404 zw358 zw401) hws_96 rfl (by decide +kernel) rfl rfl ⟨by decide +kernel, by decide +kernel, by decide +kernel⟩ ⟨by decide, by decide⟩ (catch_nil rfl) RX6 rfl TX6 23 rfl ⟨by decide, by decide⟩ (dk_135_0 (7, .invokevirtual 134, 3) (List.mem_of_getElem? (i := 5) rfl)),
  List.forall_mem_cons.mpr ⟨sd_if_ne 135 10 9 19 (by decide) (dk_135_0 (10, .ifCond .ne 9, 3) (List.mem_of_getElem? (i := 6) rfl)),
  List.forall_mem_cons.mpr ⟨sd_oLdR_n 135 13 0 0 rfl (dk_135_0 (13, .aload_n 0, 1) (List.mem_of_getElem? (i := 7) rfl)),
  List.forall_mem_cons.mpr ⟨sd_iconst 135 14 1 ⟨by decide, by decide⟩ (dk_135_0 (14, .iconst 1, 1) (List.mem_of_getElem? (i := 8) rfl)),
  List.forall_mem_cons.mpr ⟨sd_callV 135 15 91 1 2 82 7 [] (gdV hws_135 hws_91 zw362 zw363 zw364 zw358 zw361) hws_91 rfl (by decide +kernel) rfl rfl ⟨by decide +kernel, by decide +kernel, by decide +kernel⟩ ⟨by decide, by decide⟩ (catch_nil rfl) RX6 rfl TX6 23 rfl ⟨by decide, by decide⟩ (dk_135_0 (15, .invokevirtual 82, 3) (List.mem_of_getElem? (i := 9) rfl)),
  List.forall_mem_cons.mpr ⟨sd_iret 135 18 rfl (dk_135_0 (18, .ireturn, 1) (List.mem_of_getElem? (i := 10) rfl)),
  List.forall_mem_cons.mpr ⟨sd_oLdR_n 135 19 0 0 rfl (dk_135_0 (19, .aload_n 0, 1) (List.mem_of_getElem? (i := 11) rfl)),
  List.forall_mem_cons.mpr ⟨sd_oLdR_n 135 20 0 0 rfl (dk_135_0 (20, .aload_n 0, 1) (List.mem_of_getElem? (i := 12) rfl)),
  List.forall_mem_cons.mpr ⟨sd_oGetR 135 21 7 11 30 RX6 TX6 23 rfl ⟨by decide, by decide⟩ rfl (by decide) rfl (fun w h => iw_135 w (uz_6 w h)) rfl (iw_135 _ zw340) (dk_135_0 (21, .getfield 30, 3) (List.mem_of_getElem? (i := 13) rfl)),
  List.forall_mem_cons.mpr ⟨sd_oLdI_n 135 24 1 1 rfl (dk_135_0 (24, .iload_n 1, 1) (List.mem_of_getElem? (i := 14) rfl)),
  List.forall_mem_cons.mpr ⟨sd_iald 135 25 (dk_135_0 (25, .iaload, 1) (List.mem_of_getElem? (i := 15) rfl)),
  List.forall_mem_cons.mpr ⟨sd_callV 135 26 132 1 3 179 7 [] (gdV hws_135 hws_132 zw458 zw459 zw460 zw358 zw457) hws_132 rfl (by decide +kernel) rfl rfl ⟨by decide +kernel, by decide +kernel, by decide +kernel⟩ ⟨by decide, by decide⟩ (catch_nil rfl) RX6 rfl TX6 23 rfl ⟨by decide, by decide⟩ (dk_135_0 (26, .invokevirtual 179, 3) (List.mem_of_getElem? (i := 16) rfl)),
  List.forall_mem_cons.mpr ⟨sd_oLdI_n 135 29 2 2 rfl (dk_135_0 (29, .iload_n 2, 1) (List.mem_of_getElem? (i := 17) rfl)),
  List.forall_mem_cons.mpr ⟨sd_iconst 135 30 0 ⟨by decide, by decide⟩ (dk_135_0 (30, .iconst 0, 1) (List.mem_of_getElem? (i := 18) rfl)),
  List.forall_mem_cons.mpr ⟨sd_oLdR_n 135 31 0 0 rfl (dk_135_0 (31, .aload_n 0, 1) (List.mem_of_getElem? (i := 19) rfl)),
  List.forall_mem_cons.mpr ⟨sd_oGetI 135 32 7 21 170 RX6 TX6 23 rfl ⟨by decide, by decide⟩ rfl (by decide) rfl (fun w h => iw_135 w (uz_6 w h)) rfl (iw_135 _ zw448) (dk_135_0 (32, .getfield 170, 3) (List.mem_of_getElem? (i := 20) rfl)),
  List.forall_mem_cons.mpr ⟨sd_iconst 135 35 1 ⟨by decide, by decide⟩ (dk_135_0 (35, .iconst 1, 1) (List.mem_of_getElem? (i := 21) rfl)),
  List.forall_mem_cons.mpr ⟨sd_isub 135 36 (dk_135_0 (36, .isub, 1) (List.mem_of_getElem? (i := 22) rfl)),
  List.forall_mem_cons.mpr ⟨sd_callS 135 37 94 3 3 72 [] (gdS hws_135 hws_94 zw356 zw357 zw358 zw355) hws_94 rfl (by decide +kernel) rfl rfl ⟨by decide +kernel, by decide +kernel, by decide +kernel⟩ ⟨by decide, by decide⟩ (catch_nil rfl) (dk_135_0 (37, .invokestatic 72, 3) (List.mem_of_getElem? (i := 23) rfl)),
  List.forall_mem_cons.mpr ⟨sd_if_eq 135 40 12 52 (by decide) (dk_135_0 (40, .ifCond .eq 12, 3) (List.mem_of_getElem? (i := 24) rfl)),
  List.forall_mem_cons.mpr ⟨sd_oLdR_n 135 43 0 0 rfl (dk_135_0 (43, .aload_n 0, 1) (List.mem_of_getElem? (i := 25) rfl)),
  List.forall_mem_cons.mpr ⟨sd_oGetR 135 44 7 22 62 RX6 TX6 23 rfl ⟨by decide, by decide⟩ rfl (by decide) rfl (fun w h => iw_135 w (uz_6 w h)) rfl (iw_135 _ zw352) (dk_135_0 (44, .getfield 62, 3) (List.mem_of_getElem? (i := 26) rfl)),
  List.forall_mem_cons.mpr ⟨sd_oLdI_n 135 47 2 2 rfl (dk_135_0 (47, .iload_n 2, 1) (List.mem_of_getElem? (i := 27) rfl)),
  List.forall_mem_cons.mpr ⟨sd_iald 135 48 (dk_135_0 (48, .iaload, 1) (List.mem_of_getElem? (i := 28) rfl)),
  List.forall_mem_cons.mpr ⟨sd_goto 135 49 4 53 (by decide) (dk_135_0 (49, .goto 4, 3) (List.mem_of_getElem? (i := 29) rfl)),
  List.forall_mem_cons.mpr ⟨sd_iconst 135 52 (-1) ⟨by decide, by decide⟩ (dk_135_0 (52, .iconst (-1), 1) (List.mem_of_getElem? (i := 30) rfl)),
  List.forall_mem_cons.mpr ⟨sd_iret 135 53 rfl (dk_135_0 (53, .ireturn, 1) (List.mem_of_getElem? (i := 31) rfl)),
  fun _ h => nomatch h⟩⟩⟩⟩⟩⟩⟩⟩⟩⟩⟩⟩⟩⟩⟩⟩⟩⟩⟩⟩⟩⟩⟩⟩⟩⟩⟩⟩⟩⟩⟩⟩
def tb_135 : List (List (Nat × Op1)) := [tb_135_0]
theorem sm_135 : ∀ t ∈ tb_135, ∀ q ∈ t, SM GwP MdP D A l 135 q.1 q.2 := List.forall_mem_cons.mpr ⟨sm_135_0, fun _ h => nomatch h⟩
-- 136: MarginaliaModel.overNow(II)I
def dl_136_0 : List (Nat × Instr × Nat) := [(0, .iconst 0, 1), (1, .istore_n 3, 1), (2, .iconst 0, 1), (3, .istore 4, 2), (5, .iload 4, 2), (7, .aload_n 0, 1), (8, .getfield 76, 3), (11, .if_icmp .ge 58, 3), (14, .iload_n 3, 1), (15, .aload_n 0, 1), (16, .iload 4, 2), (18, .invokevirtual 149, 3), (21, .ifCond .eq 39, 3), (24, .aload_n 0, 1), (25, .iload_n 1, 1), (26, .iload 4, 2), (28, .invokevirtual 126, 3), (31, .ifCond .eq 29, 3), (34, .iload_n 2, 1), (35, .aload_n 0, 1), (36, .getfield 36, 3), (39, .iload 4, 2), (41, .iaload, 1), (42, .if_icmp .lt 18, 3), (45, .iload_n 2, 1), (46, .aload_n 0, 1), (47, .getfield 39, 3), (50, .iload 4, 2), (52, .iaload, 1), (53, .if_icmp .ge 7, 3), (56, .iconst 1, 1), (57, .goto 4, 3), (60, .iconst 0, 1), (61, .iadd, 1), (62, .istore_n 3, 1), (63, .iinc 4 1, 3), (66, .goto (-61), 3), (69, .iload_n 3, 1), (70, .ireturn, 1)]
theorem dk_136_0 : ∀ q ∈ dl_136_0, decode (mCod (MdP 136)) q.1 = .ok q.2 := by
  rw [show mCod (MdP 136) = cX6_overNow from rfl]
  decide +kernel
def tb_136_0 : List (Nat × Op1) := [(0, oCI 0 1), (1, oStI 3 1), (2, oCI 0 1), (3, oStI 4 2), (5, oLdI 4 2), (7, oLdR 0 1), (8, oGetI 7 7), (11, oCge 69), (14, oLdI 3 1), (15, oLdR 0 1), (16, oLdI 4 2), (18, oCallV 120 1 2 7 []), (21, oZeq 60), (24, oLdR 0 1), (25, oLdI 1 1), (26, oLdI 4 2), (28, oCallV 109 2 3 7 []), (31, oZeq 60), (34, oLdI 2 1), (35, oLdR 0 1), (36, oGetR 7 13), (39, oLdI 4 2), (41, oALdI 10), (42, oClt 60), (45, oLdI 2 1), (46, oLdR 0 1), (47, oGetR 7 14), (50, oLdI 4 2), (52, oALdI 10), (53, oCge 60), (56, oCI 1 1), (57, oGoto 61), (60, oCI 0 1), (61, oAdd), (62, oStI 3 1), (63, oInc 4 1)]
theorem sm_136_0 : ∀ q ∈ tb_136_0, SM GwP MdP D A l 136 q.1 q.2 :=
  List.forall_mem_cons.mpr ⟨sd_iconst 136 0 0 ⟨by decide, by decide⟩ (dk_136_0 (0, .iconst 0, 1) (List.mem_of_getElem? (i := 0) rfl)),
  List.forall_mem_cons.mpr ⟨sd_oStI_n 136 1 3 3 rfl (by decide) (dk_136_0 (1, .istore_n 3, 1) (List.mem_of_getElem? (i := 1) rfl)),
  List.forall_mem_cons.mpr ⟨sd_iconst 136 2 0 ⟨by decide, by decide⟩ (dk_136_0 (2, .iconst 0, 1) (List.mem_of_getElem? (i := 2) rfl)),
  List.forall_mem_cons.mpr ⟨sd_oStI 136 3 4 (by decide) (dk_136_0 (3, .istore 4, 2) (List.mem_of_getElem? (i := 3) rfl)),
  List.forall_mem_cons.mpr ⟨sd_oLdI 136 5 4 (dk_136_0 (5, .iload 4, 2) (List.mem_of_getElem? (i := 4) rfl)),
  List.forall_mem_cons.mpr ⟨sd_oLdR_n 136 7 0 0 rfl (dk_136_0 (7, .aload_n 0, 1) (List.mem_of_getElem? (i := 5) rfl)),
  List.forall_mem_cons.mpr ⟨sd_oGetI 136 8 7 7 76 RX6 TX6 23 rfl ⟨by decide, by decide⟩ rfl (by decide) rfl (fun w h => iw_136 w (uz_6 w h)) rfl (iw_136 _ zw359) (dk_136_0 (8, .getfield 76, 3) (List.mem_of_getElem? (i := 6) rfl)),
  List.forall_mem_cons.mpr ⟨sd_icmp_ge 136 11 58 69 (by decide) (dk_136_0 (11, .if_icmp .ge 58, 3) (List.mem_of_getElem? (i := 7) rfl)),
  List.forall_mem_cons.mpr ⟨sd_oLdI_n 136 14 3 3 rfl (dk_136_0 (14, .iload_n 3, 1) (List.mem_of_getElem? (i := 8) rfl)),
  List.forall_mem_cons.mpr ⟨sd_oLdR_n 136 15 0 0 rfl (dk_136_0 (15, .aload_n 0, 1) (List.mem_of_getElem? (i := 9) rfl)),
  List.forall_mem_cons.mpr ⟨sd_oLdI 136 16 4 (dk_136_0 (16, .iload 4, 2) (List.mem_of_getElem? (i := 10) rfl)),
  List.forall_mem_cons.mpr ⟨sd_callV 136 18 120 1 2 149 7 [] (gdV hws_136 hws_120 zw421 zw422 zw423 zw358 zw420) hws_120 rfl (by decide +kernel) rfl rfl ⟨by decide +kernel, by decide +kernel, by decide +kernel⟩ ⟨by decide, by decide⟩ (catch_nil rfl) RX6 rfl TX6 23 rfl ⟨by decide, by decide⟩ (dk_136_0 (18, .invokevirtual 149, 3) (List.mem_of_getElem? (i := 11) rfl)),
  List.forall_mem_cons.mpr ⟨sd_if_eq 136 21 39 60 (by decide) (dk_136_0 (21, .ifCond .eq 39, 3) (List.mem_of_getElem? (i := 12) rfl)),
  List.forall_mem_cons.mpr ⟨sd_oLdR_n 136 24 0 0 rfl (dk_136_0 (24, .aload_n 0, 1) (List.mem_of_getElem? (i := 13) rfl)),
  List.forall_mem_cons.mpr ⟨sd_oLdI_n 136 25 1 1 rfl (dk_136_0 (25, .iload_n 1, 1) (List.mem_of_getElem? (i := 14) rfl)),
  List.forall_mem_cons.mpr ⟨sd_oLdI 136 26 4 (dk_136_0 (26, .iload 4, 2) (List.mem_of_getElem? (i := 15) rfl)),
  List.forall_mem_cons.mpr ⟨sd_callV 136 28 109 2 3 126 7 [] (gdV hws_136 hws_109 zw394 zw395 zw396 zw358 zw393) hws_109 rfl (by decide +kernel) rfl rfl ⟨by decide +kernel, by decide +kernel, by decide +kernel⟩ ⟨by decide, by decide⟩ (catch_nil rfl) RX6 rfl TX6 23 rfl ⟨by decide, by decide⟩ (dk_136_0 (28, .invokevirtual 126, 3) (List.mem_of_getElem? (i := 16) rfl)),
  List.forall_mem_cons.mpr ⟨sd_if_eq 136 31 29 60 (by decide) (dk_136_0 (31, .ifCond .eq 29, 3) (List.mem_of_getElem? (i := 17) rfl)),
  List.forall_mem_cons.mpr ⟨sd_oLdI_n 136 34 2 2 rfl (dk_136_0 (34, .iload_n 2, 1) (List.mem_of_getElem? (i := 18) rfl)),
  List.forall_mem_cons.mpr ⟨sd_oLdR_n 136 35 0 0 rfl (dk_136_0 (35, .aload_n 0, 1) (List.mem_of_getElem? (i := 19) rfl)),
  List.forall_mem_cons.mpr ⟨sd_oGetR 136 36 7 13 36 RX6 TX6 23 rfl ⟨by decide, by decide⟩ rfl (by decide) rfl (fun w h => iw_136 w (uz_6 w h)) rfl (iw_136 _ zw342) (dk_136_0 (36, .getfield 36, 3) (List.mem_of_getElem? (i := 20) rfl)),
  List.forall_mem_cons.mpr ⟨sd_oLdI 136 39 4 (dk_136_0 (39, .iload 4, 2) (List.mem_of_getElem? (i := 21) rfl)),
  List.forall_mem_cons.mpr ⟨sd_iald 136 41 (dk_136_0 (41, .iaload, 1) (List.mem_of_getElem? (i := 22) rfl)),
  List.forall_mem_cons.mpr ⟨sd_icmp_lt 136 42 18 60 (by decide) (dk_136_0 (42, .if_icmp .lt 18, 3) (List.mem_of_getElem? (i := 23) rfl)),
  List.forall_mem_cons.mpr ⟨sd_oLdI_n 136 45 2 2 rfl (dk_136_0 (45, .iload_n 2, 1) (List.mem_of_getElem? (i := 24) rfl)),
  List.forall_mem_cons.mpr ⟨sd_oLdR_n 136 46 0 0 rfl (dk_136_0 (46, .aload_n 0, 1) (List.mem_of_getElem? (i := 25) rfl)),
  List.forall_mem_cons.mpr ⟨sd_oGetR 136 47 7 14 39 RX6 TX6 23 rfl ⟨by decide, by decide⟩ rfl (by decide) rfl (fun w h => iw_136 w (uz_6 w h)) rfl (iw_136 _ zw343) (dk_136_0 (47, .getfield 39, 3) (List.mem_of_getElem? (i := 26) rfl)),
  List.forall_mem_cons.mpr ⟨sd_oLdI 136 50 4 (dk_136_0 (50, .iload 4, 2) (List.mem_of_getElem? (i := 27) rfl)),
  List.forall_mem_cons.mpr ⟨sd_iald 136 52 (dk_136_0 (52, .iaload, 1) (List.mem_of_getElem? (i := 28) rfl)),
  List.forall_mem_cons.mpr ⟨sd_icmp_ge 136 53 7 60 (by decide) (dk_136_0 (53, .if_icmp .ge 7, 3) (List.mem_of_getElem? (i := 29) rfl)),
  List.forall_mem_cons.mpr ⟨sd_iconst 136 56 1 ⟨by decide, by decide⟩ (dk_136_0 (56, .iconst 1, 1) (List.mem_of_getElem? (i := 30) rfl)),
  List.forall_mem_cons.mpr ⟨sd_goto 136 57 4 61 (by decide) (dk_136_0 (57, .goto 4, 3) (List.mem_of_getElem? (i := 31) rfl)),
  List.forall_mem_cons.mpr ⟨sd_iconst 136 60 0 ⟨by decide, by decide⟩ (dk_136_0 (60, .iconst 0, 1) (List.mem_of_getElem? (i := 32) rfl)),
  List.forall_mem_cons.mpr ⟨sd_iadd 136 61 (dk_136_0 (61, .iadd, 1) (List.mem_of_getElem? (i := 33) rfl)),
  List.forall_mem_cons.mpr ⟨sd_oStI_n 136 62 3 3 rfl (by decide) (dk_136_0 (62, .istore_n 3, 1) (List.mem_of_getElem? (i := 34) rfl)),
  List.forall_mem_cons.mpr ⟨sd_iinc 136 63 4 1 (by decide) (dk_136_0 (63, .iinc 4 1, 3) (List.mem_of_getElem? (i := 35) rfl)),
  fun _ h => nomatch h⟩⟩⟩⟩⟩⟩⟩⟩⟩⟩⟩⟩⟩⟩⟩⟩⟩⟩⟩⟩⟩⟩⟩⟩⟩⟩⟩⟩⟩⟩⟩⟩⟩⟩⟩⟩
def tb_136_1 : List (Nat × Op1) := [(66, oGoto 5), (69, oLdI 3 1), (70, oRetI)]
theorem sm_136_1 : ∀ q ∈ tb_136_1, SM GwP MdP D A l 136 q.1 q.2 :=
  List.forall_mem_cons.mpr ⟨sd_goto 136 66 (-61) 5 (by decide) (dk_136_0 (66, .goto (-61), 3) (List.mem_of_getElem? (i := 36) rfl)),
  List.forall_mem_cons.mpr ⟨sd_oLdI_n 136 69 3 3 rfl (dk_136_0 (69, .iload_n 3, 1) (List.mem_of_getElem? (i := 37) rfl)),
  List.forall_mem_cons.mpr ⟨sd_iret 136 70 rfl (dk_136_0 (70, .ireturn, 1) (List.mem_of_getElem? (i := 38) rfl)),
  fun _ h => nomatch h⟩⟩⟩
def tb_136 : List (List (Nat × Op1)) := [tb_136_0, tb_136_1]
theorem sm_136 : ∀ t ∈ tb_136, ∀ q ∈ t, SM GwP MdP D A l 136 q.1 q.2 := List.forall_mem_cons.mpr ⟨sm_136_0, List.forall_mem_cons.mpr ⟨sm_136_1, fun _ h => nomatch h⟩⟩
-- 137: MarginaliaModel.over(II)I
def dl_137_0 : List (Nat × Instr × Nat) := [(0, .aload_n 0, 1), (1, .iconst 0, 1), (2, .putfield 65, 3), (5, .aload_n 0, 1), (6, .iload_n 1, 1), (7, .invokevirtual 86, 3), (10, .ifCond .eq 12, 3), (13, .aload_n 0, 1), (14, .iload_n 1, 1), (15, .iload_n 2, 1), (16, .invokevirtual 183, 3), (19, .goto 8, 3), (22, .aload_n 0, 1), (23, .iconst 1, 1), (24, .invokevirtual 82, 3), (27, .ireturn, 1)]
theorem dk_137_0 : ∀ q ∈ dl_137_0, decode (mCod (MdP 137)) q.1 = .ok q.2 := by
  rw [show mCod (MdP 137) = cX6_over from rfl]
  decide +kernel
def tb_137_0 : List (Nat × Op1) := [(0, oLdR 0 1), (1, oCI 0 1), (2, oPutI 7 0), (5, oLdR 0 1), (6, oLdI 1 1), (7, oCallV 95 1 2 7 []), (10, oZeq 22), (13, oLdR 0 1), (14, oLdI 1 1), (15, oLdI 2 1), (16, oCallV 136 2 5 7 []), (19, oGoto 27), (22, oLdR 0 1), (23, oCI 1 1), (24, oCallV 91 1 2 7 []), (27, oRetI)]
theorem sm_137_0 : ∀ q ∈ tb_137_0, SM GwP MdP D A l 137 q.1 q.2 :=
  List.forall_mem_cons.mpr ⟨sd_oLdR_n 137 0 0 0 rfl (dk_137_0 (0, .aload_n 0, 1) (List.mem_of_getElem? (i := 0) rfl)),
  List.forall_mem_cons.mpr ⟨sd_iconst 137 1 0 ⟨by decide, by decide⟩ (dk_137_0 (1, .iconst 0, 1) (List.mem_of_getElem? (i := 1) rfl)),
  List.forall_mem_cons.mpr ⟨sd_oPutI 137 2 7 0 65 RX6 TX6 23 rfl ⟨by decide, by decide⟩ rfl (by decide) rfl (fun w h => iw_137 w (uz_6 w h)) rfl tyX6 tyX6_ok nmX6 rfl rfl (iw_137 _ zw353) (dk_137_0 (2, .putfield 65, 3) (List.mem_of_getElem? (i := 2) rfl)),
  List.forall_mem_cons.mpr ⟨sd_oLdR_n 137 5 0 0 rfl (dk_137_0 (5, .aload_n 0, 1) (List.mem_of_getElem? (i := 3) rfl)),
  List.forall_mem_cons.mpr ⟨sd_oLdI_n 137 6 1 1 rfl (dk_137_0 (6, .iload_n 1, 1) (List.mem_of_getElem? (i := 4) rfl)),
  List.forall_mem_cons.mpr ⟨sd_callV 137 7 95 1 2 86 7 [] (gdV hws_137 hws_95 zw366 zw367 zw368 zw358 zw365) hws_95 rfl (by decide +kernel) rfl rfl ⟨by decide +kernel, by decide +kernel, by decide +kernel⟩ ⟨by decide, by decide⟩ (catch_nil rfl) RX6 rfl TX6 23 rfl ⟨by decide, by decide⟩ (dk_137_0 (7, .invokevirtual 86, 3) (List.mem_of_getElem? (i := 5) rfl)),
  List.forall_mem_cons.mpr ⟨sd_if_eq 137 10 12 22 (by decide) (dk_137_0 (10, .ifCond .eq 12, 3) (List.mem_of_getElem? (i := 6) rfl)),
  List.forall_mem_cons.mpr ⟨sd_oLdR_n 137 13 0 0 rfl (dk_137_0 (13, .aload_n 0, 1) (List.mem_of_getElem? (i := 7) rfl)),
  List.forall_mem_cons.mpr ⟨sd_oLdI_n 137 14 1 1 rfl (dk_137_0 (14, .iload_n 1, 1) (List.mem_of_getElem? (i := 8) rfl)),
  List.forall_mem_cons.mpr ⟨sd_oLdI_n 137 15 2 2 rfl (dk_137_0 (15, .iload_n 2, 1) (List.mem_of_getElem? (i := 9) rfl)),
  List.forall_mem_cons.mpr ⟨sd_callV 137 16 136 2 5 183 7 [] (gdV hws_137 hws_136 zw462 zw463 zw464 zw358 zw461) hws_136 rfl (by decide +kernel) rfl rfl ⟨by decide +kernel, by decide +kernel, by decide +kernel⟩ ⟨by decide, by decide⟩ (catch_nil rfl) RX6 rfl TX6 23 rfl ⟨by decide, by decide⟩ (dk_137_0 (16, .invokevirtual 183, 3) (List.mem_of_getElem? (i := 10) rfl)),
  List.forall_mem_cons.mpr ⟨sd_goto 137 19 8 27 (by decide) (dk_137_0 (19, .goto 8, 3) (List.mem_of_getElem? (i := 11) rfl)),
  List.forall_mem_cons.mpr ⟨sd_oLdR_n 137 22 0 0 rfl (dk_137_0 (22, .aload_n 0, 1) (List.mem_of_getElem? (i := 12) rfl)),
  List.forall_mem_cons.mpr ⟨sd_iconst 137 23 1 ⟨by decide, by decide⟩ (dk_137_0 (23, .iconst 1, 1) (List.mem_of_getElem? (i := 13) rfl)),
  List.forall_mem_cons.mpr ⟨sd_callV 137 24 91 1 2 82 7 [] (gdV hws_137 hws_91 zw362 zw363 zw364 zw358 zw361) hws_91 rfl (by decide +kernel) rfl rfl ⟨by decide +kernel, by decide +kernel, by decide +kernel⟩ ⟨by decide, by decide⟩ (catch_nil rfl) RX6 rfl TX6 23 rfl ⟨by decide, by decide⟩ (dk_137_0 (24, .invokevirtual 82, 3) (List.mem_of_getElem? (i := 14) rfl)),
  List.forall_mem_cons.mpr ⟨sd_iret 137 27 rfl (dk_137_0 (27, .ireturn, 1) (List.mem_of_getElem? (i := 15) rfl)),
  fun _ h => nomatch h⟩⟩⟩⟩⟩⟩⟩⟩⟩⟩⟩⟩⟩⟩⟩⟩
def tb_137 : List (List (Nat × Op1)) := [tb_137_0]
theorem sm_137 : ∀ t ∈ tb_137, ∀ q ∈ t, SM GwP MdP D A l 137 q.1 q.2 := List.forall_mem_cons.mpr ⟨sm_137_0, fun _ h => nomatch h⟩
-- 138: MarginaliaModel.isAhead(II)Z
def dl_138_0 : List (Nat × Instr × Nat) := [(0, .aload_n 0, 1), (1, .getfield 36, 3), (4, .iload_n 1, 1), (5, .iaload, 1), (6, .aload_n 0, 1), (7, .getfield 36, 3), (10, .iload_n 2, 1), (11, .iaload, 1), (12, .if_icmp .eq 24, 3), (15, .aload_n 0, 1), (16, .getfield 36, 3), (19, .iload_n 1, 1), (20, .iaload, 1), (21, .aload_n 0, 1), (22, .getfield 36, 3), (25, .iload_n 2, 1), (26, .iaload, 1), (27, .if_icmp .ge 7, 3), (30, .iconst 1, 1), (31, .goto 4, 3), (34, .iconst 0, 1), (35, .ireturn, 1), (36, .aload_n 0, 1), (37, .getfield 39, 3), (40, .iload_n 1, 1), (41, .iaload, 1), (42, .aload_n 0, 1), (43, .getfield 39, 3), (46, .iload_n 2, 1), (47, .iaload, 1), (48, .if_icmp .ne 16, 3), (51, .iload_n 1, 1), (52, .iload_n 2, 1), (53, .if_icmp .ge 7, 3), (56, .iconst 1, 1), (57, .goto 27, 3), (60, .iconst 0, 1), (61, .goto 23, 3), (64, .aload_n 0, 1), (65, .getfield 39, 3)]
theorem dk_138_0 : ∀ q ∈ dl_138_0, decode (mCod (MdP 138)) q.1 = .ok q.2 := by
  rw [show mCod (MdP 138) = cX6_isAhead from rfl]
  decide +kernel
def dl_138_1 : List (Nat × Instr × Nat) := [(68, .iload_n 1, 1), (69, .iaload, 1), (70, .aload_n 0, 1), (71, .getfield 39, 3), (74, .iload_n 2, 1), (75, .iaload, 1), (76, .if_icmp .ge 7, 3), (79, .iconst 1, 1), (80, .goto 4, 3), (83, .iconst 0, 1), (84, .ireturn, 1)]
theorem dk_138_1 : ∀ q ∈ dl_138_1, decode (mCod (MdP 138)) q.1 = .ok q.2 := by
  rw [show mCod (MdP 138) = cX6_isAhead from rfl]
  decide +kernel
def tb_138_0 : List (Nat × Op1) := [(0, oLdR 0 1), (1, oGetR 7 13), (4, oLdI 1 1), (5, oALdI 10), (6, oLdR 0 1), (7, oGetR 7 13), (10, oLdI 2 1), (11, oALdI 10), (12, oCeq 36), (15, oLdR 0 1), (16, oGetR 7 13), (19, oLdI 1 1), (20, oALdI 10), (21, oLdR 0 1), (22, oGetR 7 13), (25, oLdI 2 1), (26, oALdI 10), (27, oCge 34), (30, oCI 1 1), (31, oGoto 35), (34, oCI 0 1), (35, oRetZ), (36, oLdR 0 1), (37, oGetR 7 14), (40, oLdI 1 1), (41, oALdI 10), (42, oLdR 0 1), (43, oGetR 7 14), (46, oLdI 2 1), (47, oALdI 10), (48, oCne 64), (51, oLdI 1 1), (52, oLdI 2 1), (53, oCge 60), (56, oCI 1 1), (57, oGoto 84), (60, oCI 0 1), (61, oGoto 84)]
theorem sm_138_0 : ∀ q ∈ tb_138_0, SM GwP MdP D A l 138 q.1 q.2 :=
  List.forall_mem_cons.mpr ⟨sd_oLdR_n 138 0 0 0 rfl (dk_138_0 (0, .aload_n 0, 1) (List.mem_of_getElem? (i := 0) rfl)),
  List.forall_mem_cons.mpr ⟨sd_oGetR 138 1 7 13 36 RX6 TX6 23 rfl ⟨by decide, by decide⟩ rfl (by decide) rfl (fun w h => iw_138 w (uz_6 w h)) rfl (iw_138 _ zw342) (dk_138_0 (1, .getfield 36, 3) (List.mem_of_getElem? (i := 1) rfl)),
  List.forall_mem_cons.mpr ⟨sd_oLdI_n 138 4 1 1 rfl (dk_138_0 (4, .iload_n 1, 1) (List.mem_of_getElem? (i := 2) rfl)),
  List.forall_mem_cons.mpr ⟨sd_iald 138 5 (dk_138_0 (5, .iaload, 1) (List.mem_of_getElem? (i := 3) rfl)),
  List.forall_mem_cons.mpr ⟨sd_oLdR_n 138 6 0 0 rfl (dk_138_0 (6, .aload_n 0, 1) (List.mem_of_getElem? (i := 4) rfl)),
  List.forall_mem_cons.mpr ⟨sd_oGetR 138 7 7 13 36 RX6 TX6 23 rfl ⟨by decide, by decide⟩ rfl (by decide) rfl (fun w h => iw_138 w (uz_6 w h)) rfl (iw_138 _ zw342) (dk_138_0 (7, .getfield 36, 3) (List.mem_of_getElem? (i := 5) rfl)),
  List.forall_mem_cons.mpr ⟨sd_oLdI_n 138 10 2 2 rfl (dk_138_0 (10, .iload_n 2, 1) (List.mem_of_getElem? (i := 6) rfl)),
  List.forall_mem_cons.mpr ⟨sd_iald 138 11 (dk_138_0 (11, .iaload, 1) (List.mem_of_getElem? (i := 7) rfl)),
  List.forall_mem_cons.mpr ⟨sd_icmp_eq 138 12 24 36 (by decide) (dk_138_0 (12, .if_icmp .eq 24, 3) (List.mem_of_getElem? (i := 8) rfl)),
  List.forall_mem_cons.mpr ⟨sd_oLdR_n 138 15 0 0 rfl (dk_138_0 (15, .aload_n 0, 1) (List.mem_of_getElem? (i := 9) rfl)),
  List.forall_mem_cons.mpr ⟨sd_oGetR 138 16 7 13 36 RX6 TX6 23 rfl ⟨by decide, by decide⟩ rfl (by decide) rfl (fun w h => iw_138 w (uz_6 w h)) rfl (iw_138 _ zw342) (dk_138_0 (16, .getfield 36, 3) (List.mem_of_getElem? (i := 10) rfl)),
  List.forall_mem_cons.mpr ⟨sd_oLdI_n 138 19 1 1 rfl (dk_138_0 (19, .iload_n 1, 1) (List.mem_of_getElem? (i := 11) rfl)),
  List.forall_mem_cons.mpr ⟨sd_iald 138 20 (dk_138_0 (20, .iaload, 1) (List.mem_of_getElem? (i := 12) rfl)),
  List.forall_mem_cons.mpr ⟨sd_oLdR_n 138 21 0 0 rfl (dk_138_0 (21, .aload_n 0, 1) (List.mem_of_getElem? (i := 13) rfl)),
  List.forall_mem_cons.mpr ⟨sd_oGetR 138 22 7 13 36 RX6 TX6 23 rfl ⟨by decide, by decide⟩ rfl (by decide) rfl (fun w h => iw_138 w (uz_6 w h)) rfl (iw_138 _ zw342) (dk_138_0 (22, .getfield 36, 3) (List.mem_of_getElem? (i := 14) rfl)),
  List.forall_mem_cons.mpr ⟨sd_oLdI_n 138 25 2 2 rfl (dk_138_0 (25, .iload_n 2, 1) (List.mem_of_getElem? (i := 15) rfl)),
  List.forall_mem_cons.mpr ⟨sd_iald 138 26 (dk_138_0 (26, .iaload, 1) (List.mem_of_getElem? (i := 16) rfl)),
  List.forall_mem_cons.mpr ⟨sd_icmp_ge 138 27 7 34 (by decide) (dk_138_0 (27, .if_icmp .ge 7, 3) (List.mem_of_getElem? (i := 17) rfl)),
  List.forall_mem_cons.mpr ⟨sd_iconst 138 30 1 ⟨by decide, by decide⟩ (dk_138_0 (30, .iconst 1, 1) (List.mem_of_getElem? (i := 18) rfl)),
  List.forall_mem_cons.mpr ⟨sd_goto 138 31 4 35 (by decide) (dk_138_0 (31, .goto 4, 3) (List.mem_of_getElem? (i := 19) rfl)),
  List.forall_mem_cons.mpr ⟨sd_iconst 138 34 0 ⟨by decide, by decide⟩ (dk_138_0 (34, .iconst 0, 1) (List.mem_of_getElem? (i := 20) rfl)),
  List.forall_mem_cons.mpr ⟨sd_zret 138 35 rfl (dk_138_0 (35, .ireturn, 1) (List.mem_of_getElem? (i := 21) rfl)),
  List.forall_mem_cons.mpr ⟨sd_oLdR_n 138 36 0 0 rfl (dk_138_0 (36, .aload_n 0, 1) (List.mem_of_getElem? (i := 22) rfl)),
  List.forall_mem_cons.mpr ⟨sd_oGetR 138 37 7 14 39 RX6 TX6 23 rfl ⟨by decide, by decide⟩ rfl (by decide) rfl (fun w h => iw_138 w (uz_6 w h)) rfl (iw_138 _ zw343) (dk_138_0 (37, .getfield 39, 3) (List.mem_of_getElem? (i := 23) rfl)),
  List.forall_mem_cons.mpr ⟨sd_oLdI_n 138 40 1 1 rfl (dk_138_0 (40, .iload_n 1, 1) (List.mem_of_getElem? (i := 24) rfl)),
  List.forall_mem_cons.mpr ⟨sd_iald 138 41 (dk_138_0 (41, .iaload, 1) (List.mem_of_getElem? (i := 25) rfl)),
  List.forall_mem_cons.mpr ⟨sd_oLdR_n 138 42 0 0 rfl (dk_138_0 (42, .aload_n 0, 1) (List.mem_of_getElem? (i := 26) rfl)),
  List.forall_mem_cons.mpr ⟨sd_oGetR 138 43 7 14 39 RX6 TX6 23 rfl ⟨by decide, by decide⟩ rfl (by decide) rfl (fun w h => iw_138 w (uz_6 w h)) rfl (iw_138 _ zw343) (dk_138_0 (43, .getfield 39, 3) (List.mem_of_getElem? (i := 27) rfl)),
  List.forall_mem_cons.mpr ⟨sd_oLdI_n 138 46 2 2 rfl (dk_138_0 (46, .iload_n 2, 1) (List.mem_of_getElem? (i := 28) rfl)),
  List.forall_mem_cons.mpr ⟨sd_iald 138 47 (dk_138_0 (47, .iaload, 1) (List.mem_of_getElem? (i := 29) rfl)),
  List.forall_mem_cons.mpr ⟨sd_icmp_ne 138 48 16 64 (by decide) (dk_138_0 (48, .if_icmp .ne 16, 3) (List.mem_of_getElem? (i := 30) rfl)),
  List.forall_mem_cons.mpr ⟨sd_oLdI_n 138 51 1 1 rfl (dk_138_0 (51, .iload_n 1, 1) (List.mem_of_getElem? (i := 31) rfl)),
  List.forall_mem_cons.mpr ⟨sd_oLdI_n 138 52 2 2 rfl (dk_138_0 (52, .iload_n 2, 1) (List.mem_of_getElem? (i := 32) rfl)),
  List.forall_mem_cons.mpr ⟨sd_icmp_ge 138 53 7 60 (by decide) (dk_138_0 (53, .if_icmp .ge 7, 3) (List.mem_of_getElem? (i := 33) rfl)),
  List.forall_mem_cons.mpr ⟨sd_iconst 138 56 1 ⟨by decide, by decide⟩ (dk_138_0 (56, .iconst 1, 1) (List.mem_of_getElem? (i := 34) rfl)),
  List.forall_mem_cons.mpr ⟨sd_goto 138 57 27 84 (by decide) (dk_138_0 (57, .goto 27, 3) (List.mem_of_getElem? (i := 35) rfl)),
  List.forall_mem_cons.mpr ⟨sd_iconst 138 60 0 ⟨by decide, by decide⟩ (dk_138_0 (60, .iconst 0, 1) (List.mem_of_getElem? (i := 36) rfl)),
  List.forall_mem_cons.mpr ⟨sd_goto 138 61 23 84 (by decide) (dk_138_0 (61, .goto 23, 3) (List.mem_of_getElem? (i := 37) rfl)),
  fun _ h => nomatch h⟩⟩⟩⟩⟩⟩⟩⟩⟩⟩⟩⟩⟩⟩⟩⟩⟩⟩⟩⟩⟩⟩⟩⟩⟩⟩⟩⟩⟩⟩⟩⟩⟩⟩⟩⟩⟩⟩
def tb_138_1 : List (Nat × Op1) := [(64, oLdR 0 1), (65, oGetR 7 14), (68, oLdI 1 1), (69, oALdI 10), (70, oLdR 0 1), (71, oGetR 7 14), (74, oLdI 2 1), (75, oALdI 10), (76, oCge 83), (79, oCI 1 1), (80, oGoto 84), (83, oCI 0 1), (84, oRetZ)]
theorem sm_138_1 : ∀ q ∈ tb_138_1, SM GwP MdP D A l 138 q.1 q.2 :=
  List.forall_mem_cons.mpr ⟨sd_oLdR_n 138 64 0 0 rfl (dk_138_0 (64, .aload_n 0, 1) (List.mem_of_getElem? (i := 38) rfl)),
  List.forall_mem_cons.mpr ⟨sd_oGetR 138 65 7 14 39 RX6 TX6 23 rfl ⟨by decide, by decide⟩ rfl (by decide) rfl (fun w h => iw_138 w (uz_6 w h)) rfl (iw_138 _ zw343) (dk_138_0 (65, .getfield 39, 3) (List.mem_of_getElem? (i := 39) rfl)),
  List.forall_mem_cons.mpr ⟨sd_oLdI_n 138 68 1 1 rfl (dk_138_1 (68, .iload_n 1, 1) (List.mem_of_getElem? (i := 0) rfl)),
  List.forall_mem_cons.mpr ⟨sd_iald 138 69 (dk_138_1 (69, .iaload, 1) (List.mem_of_getElem? (i := 1) rfl)),
  List.forall_mem_cons.mpr ⟨sd_oLdR_n 138 70 0 0 rfl (dk_138_1 (70, .aload_n 0, 1) (List.mem_of_getElem? (i := 2) rfl)),
  List.forall_mem_cons.mpr ⟨sd_oGetR 138 71 7 14 39 RX6 TX6 23 rfl ⟨by decide, by decide⟩ rfl (by decide) rfl (fun w h => iw_138 w (uz_6 w h)) rfl (iw_138 _ zw343) (dk_138_1 (71, .getfield 39, 3) (List.mem_of_getElem? (i := 3) rfl)),
  List.forall_mem_cons.mpr ⟨sd_oLdI_n 138 74 2 2 rfl (dk_138_1 (74, .iload_n 2, 1) (List.mem_of_getElem? (i := 4) rfl)),
  List.forall_mem_cons.mpr ⟨sd_iald 138 75 (dk_138_1 (75, .iaload, 1) (List.mem_of_getElem? (i := 5) rfl)),
  List.forall_mem_cons.mpr ⟨sd_icmp_ge 138 76 7 83 (by decide) (dk_138_1 (76, .if_icmp .ge 7, 3) (List.mem_of_getElem? (i := 6) rfl)),
  List.forall_mem_cons.mpr ⟨sd_iconst 138 79 1 ⟨by decide, by decide⟩ (dk_138_1 (79, .iconst 1, 1) (List.mem_of_getElem? (i := 7) rfl)),
  List.forall_mem_cons.mpr ⟨sd_goto 138 80 4 84 (by decide) (dk_138_1 (80, .goto 4, 3) (List.mem_of_getElem? (i := 8) rfl)),
  List.forall_mem_cons.mpr ⟨sd_iconst 138 83 0 ⟨by decide, by decide⟩ (dk_138_1 (83, .iconst 0, 1) (List.mem_of_getElem? (i := 9) rfl)),
  List.forall_mem_cons.mpr ⟨sd_zret 138 84 rfl (dk_138_1 (84, .ireturn, 1) (List.mem_of_getElem? (i := 10) rfl)),
  fun _ h => nomatch h⟩⟩⟩⟩⟩⟩⟩⟩⟩⟩⟩⟩⟩
def tb_138 : List (List (Nat × Op1)) := [tb_138_0, tb_138_1]
theorem sm_138 : ∀ t ∈ tb_138, ∀ q ∈ t, SM GwP MdP D A l 138 q.1 q.2 := List.forall_mem_cons.mpr ⟨sm_138_0, List.forall_mem_cons.mpr ⟨sm_138_1, fun _ h => nomatch h⟩⟩
-- 139: MarginaliaModel.export(IZ)I
def dl_139_0 : List (Nat × Instr × Nat) := [(0, .aload_n 0, 1), (1, .iconst 0, 1), (2, .putfield 65, 3), (5, .aload_n 0, 1), (6, .iload_n 1, 1), (7, .invokevirtual 86, 3), (10, .ifCond .ne 9, 3), (13, .aload_n 0, 1), (14, .iconst 1, 1), (15, .invokevirtual 82, 3), (18, .ireturn, 1), (19, .bipush 60, 2), (21, .newarray .int, 2), (23, .astore_n 3, 1), (24, .iconst 0, 1), (25, .istore 4, 2), (27, .iconst 0, 1), (28, .istore 5, 2), (30, .iload 5, 2), (32, .aload_n 0, 1), (33, .getfield 76, 3), (36, .if_icmp .ge 94, 3), (39, .aload_n 0, 1), (40, .iload 5, 2), (42, .invokevirtual 149, 3), (45, .ifCond .eq 79, 3), (48, .aload_n 0, 1), (49, .iload_n 1, 1), (50, .iload 5, 2), (52, .invokevirtual 126, 3), (55, .ifCond .eq 69, 3), (58, .iload_n 2, 1), (59, .ifCond .ne 16, 3), (62, .aload_n 0, 1), (63, .getfield 51, 3), (66, .iload 5, 2), (68, .baload, 1), (69, .ifCond .eq 6, 3), (72, .goto 52, 3), (75, .iload 4, 2)]
theorem dk_139_0 : ∀ q ∈ dl_139_0, decode (mCod (MdP 139)) q.1 = .ok q.2 := by
  rw [show mCod (MdP 139) = cX6_export from rfl]
  decide +kernel
def dl_139_1 : List (Nat × Instr × Nat) := [(77, .iinc 4 1, 3), (80, .istore 6, 2), (82, .iload 6, 2), (84, .ifCond .le 34, 3), (87, .aload_n 0, 1), (88, .iload 5, 2), (90, .aload_n 3, 1), (91, .iload 6, 2), (93, .iconst 1, 1), (94, .isub, 1), (95, .iaload, 1), (96, .invokevirtual 186, 3), (99, .ifCond .eq 19, 3), (102, .aload_n 3, 1), (103, .iload 6, 2), (105, .aload_n 3, 1), (106, .iload 6, 2), (108, .iconst 1, 1), (109, .isub, 1), (110, .iaload, 1), (111, .iastore, 1), (112, .iinc 6 (-1), 3), (115, .goto (-33), 3), (118, .aload_n 3, 1), (119, .iload 6, 2), (121, .iload 5, 2), (123, .iastore, 1), (124, .iinc 5 1, 3), (127, .goto (-97), 3), (130, .sipush 240, 3), (133, .newarray .int, 2), (135, .astore 5, 2), (137, .iconst 0, 1), (138, .istore 6, 2), (140, .iconst 0, 1), (141, .istore 7, 2), (143, .iload 7, 2), (145, .iload 4, 2), (147, .if_icmp .ge 104, 3), (150, .aload_n 0, 1)]
theorem dk_139_1 : ∀ q ∈ dl_139_1, decode (mCod (MdP 139)) q.1 = .ok q.2 := by
  rw [show mCod (MdP 139) = cX6_export from rfl]
  decide +kernel
def dl_139_2 : List (Nat × Instr × Nat) := [(151, .aload_n 3, 1), (152, .iload 7, 2), (154, .iaload, 1), (155, .invokevirtual 179, 3), (158, .iconst 0, 1), (159, .istore 8, 2), (161, .iload 8, 2), (163, .aload_n 0, 1), (164, .getfield 170, 3), (167, .if_icmp .ge 78, 3), (170, .iconst 4, 1), (171, .newarray .int, 2), (173, .dup, 1), (174, .iconst 0, 1), (175, .aload_n 0, 1), (176, .getfield 62, 3), (179, .iload 8, 2), (181, .iaload, 1), (182, .iastore, 1), (183, .dup, 1), (184, .iconst 1, 1), (185, .aload_n 0, 1), (186, .aload_n 0, 1), (187, .getfield 62, 3), (190, .iload 8, 2), (192, .iaload, 1), (193, .invokevirtual 164, 3), (196, .iastore, 1), (197, .dup, 1), (198, .iconst 2, 1), (199, .aload_n 0, 1), (200, .getfield 36, 3), (203, .aload_n 3, 1), (204, .iload 7, 2), (206, .iaload, 1), (207, .iaload, 1), (208, .iastore, 1), (209, .dup, 1), (210, .iconst 3, 1), (211, .aload_n 0, 1)]
theorem dk_139_2 : ∀ q ∈ dl_139_2, decode (mCod (MdP 139)) q.1 = .ok q.2 := by
  rw [show mCod (MdP 139) = cX6_export from rfl]
  decide +kernel
def dl_139_3 : List (Nat × Instr × Nat) := [(212, .aload_n 0, 1), (213, .getfield 62, 3), (216, .iload 8, 2), (218, .iaload, 1), (219, .invokevirtual 161, 3), (222, .iastore, 1), (223, .astore 9, 2), (225, .aload 9, 2), (227, .iconst 0, 1), (228, .aload 5, 2), (230, .iload 6, 2), (232, .iconst 4, 1), (233, .invokestatic 94, 3), (236, .iinc 6 4, 3), (239, .iinc 8 1, 3), (242, .goto (-81), 3), (245, .iinc 7 1, 3), (248, .goto (-105), 3), (251, .aload_n 0, 1), (252, .iload 6, 2), (254, .newarray .int, 2), (256, .putfield 59, 3), (259, .aload 5, 2), (261, .iconst 0, 1), (262, .aload_n 0, 1), (263, .getfield 59, 3), (266, .iconst 0, 1), (267, .iload 6, 2), (269, .invokestatic 94, 3), (272, .iload 6, 2), (274, .iconst 4, 1), (275, .idiv, 1), (276, .ireturn, 1)]
theorem dk_139_3 : ∀ q ∈ dl_139_3, decode (mCod (MdP 139)) q.1 = .ok q.2 := by
  rw [show mCod (MdP 139) = cX6_export from rfl]
  decide +kernel
def tb_139_0 : List (Nat × Op1) := [(0, oLdR 0 1), (1, oCI 0 1), (2, oPutI 7 0), (5, oLdR 0 1), (6, oLdI 1 1), (7, oCallV 95 1 2 7 []), (10, oZne 19), (13, oLdR 0 1), (14, oCI 1 1), (15, oCallV 91 1 2 7 []), (18, oRetI), (19, oCI 60 2), (21, oNewA 10 2), (23, oStR 3 1), (24, oCI 0 1), (25, oStI 4 2), (27, oCI 0 1), (28, oStI 5 2), (30, oLdI 5 2), (32, oLdR 0 1), (33, oGetI 7 7), (36, oCge 130), (39, oLdR 0 1), (40, oLdI 5 2), (42, oCallV 120 1 2 7 []), (45, oZeq 124), (48, oLdR 0 1), (49, oLdI 1 1), (50, oLdI 5 2), (52, oCallV 109 2 3 7 []), (55, oZeq 124), (58, oLdI 2 1), (59, oZne 75), (62, oLdR 0 1), (63, oGetR 7 18)]
theorem sm_139_0 : ∀ q ∈ tb_139_0, SM GwP MdP D A l 139 q.1 q.2 :=
  List.forall_mem_cons.mpr ⟨sd_oLdR_n 139 0 0 0 rfl (dk_139_0 (0, .aload_n 0, 1) (List.mem_of_getElem? (i := 0) rfl)),
  List.forall_mem_cons.mpr ⟨sd_iconst 139 1 0 ⟨by decide, by decide⟩ (dk_139_0 (1, .iconst 0, 1) (List.mem_of_getElem? (i := 1) rfl)),
  List.forall_mem_cons.mpr ⟨sd_oPutI 139 2 7 0 65 RX6 TX6 23 rfl ⟨by decide, by decide⟩ rfl (by decide) rfl (fun w h => iw_139 w (uz_6 w h)) rfl tyX6 tyX6_ok nmX6 rfl rfl (iw_139 _ zw353) (dk_139_0 (2, .putfield 65, 3) (List.mem_of_getElem? (i := 2) rfl)),
  List.forall_mem_cons.mpr ⟨sd_oLdR_n 139 5 0 0 rfl (dk_139_0 (5, .aload_n 0, 1) (List.mem_of_getElem? (i := 3) rfl)),
  List.forall_mem_cons.mpr ⟨sd_oLdI_n 139 6 1 1 rfl (dk_139_0 (6, .iload_n 1, 1) (List.mem_of_getElem? (i := 4) rfl)),
  List.forall_mem_cons.mpr ⟨sd_callV 139 7 95 1 2 86 7 [] (gdV hws_139 hws_95 zw366 zw367 zw368 zw358 zw365) hws_95 rfl (by decide +kernel) rfl rfl ⟨by decide +kernel, by decide +kernel, by decide +kernel⟩ ⟨by decide, by decide⟩ (catch_nil rfl) RX6 rfl TX6 23 rfl ⟨by decide, by decide⟩ (dk_139_0 (7, .invokevirtual 86, 3) (List.mem_of_getElem? (i := 5) rfl)),
  List.forall_mem_cons.mpr ⟨sd_if_ne 139 10 9 19 (by decide) (dk_139_0 (10, .ifCond .ne 9, 3) (List.mem_of_getElem? (i := 6) rfl)),
  List.forall_mem_cons.mpr ⟨sd_oLdR_n 139 13 0 0 rfl (dk_139_0 (13, .aload_n 0, 1) (List.mem_of_getElem? (i := 7) rfl)),
  List.forall_mem_cons.mpr ⟨sd_iconst 139 14 1 ⟨by decide, by decide⟩ (dk_139_0 (14, .iconst 1, 1) (List.mem_of_getElem? (i := 8) rfl)),
  List.forall_mem_cons.mpr ⟨sd_callV 139 15 91 1 2 82 7 [] (gdV hws_139 hws_91 zw362 zw363 zw364 zw358 zw361) hws_91 rfl (by decide +kernel) rfl rfl ⟨by decide +kernel, by decide +kernel, by decide +kernel⟩ ⟨by decide, by decide⟩ (catch_nil rfl) RX6 rfl TX6 23 rfl ⟨by decide, by decide⟩ (dk_139_0 (15, .invokevirtual 82, 3) (List.mem_of_getElem? (i := 9) rfl)),
  List.forall_mem_cons.mpr ⟨sd_iret 139 18 rfl (dk_139_0 (18, .ireturn, 1) (List.mem_of_getElem? (i := 10) rfl)),
  List.forall_mem_cons.mpr ⟨sd_bipush 139 19 60 ⟨by decide, by decide⟩ (by decide) (dk_139_0 (19, .bipush 60, 2) (List.mem_of_getElem? (i := 11) rfl)),
  List.forall_mem_cons.mpr ⟨sd_newA 139 21 10 .int (Or.inl ⟨rfl, rfl⟩) (iw_139 _ zw22) (dk_139_0 (21, .newarray .int, 2) (List.mem_of_getElem? (i := 12) rfl)),
  List.forall_mem_cons.mpr ⟨sd_oStR_n 139 23 3 3 rfl (by decide) (dk_139_0 (23, .astore_n 3, 1) (List.mem_of_getElem? (i := 13) rfl)),
  List.forall_mem_cons.mpr ⟨sd_iconst 139 24 0 ⟨by decide, by decide⟩ (dk_139_0 (24, .iconst 0, 1) (List.mem_of_getElem? (i := 14) rfl)),
  List.forall_mem_cons.mpr ⟨sd_oStI 139 25 4 (by decide) (dk_139_0 (25, .istore 4, 2) (List.mem_of_getElem? (i := 15) rfl)),
  List.forall_mem_cons.mpr ⟨sd_iconst 139 27 0 ⟨by decide, by decide⟩ (dk_139_0 (27, .iconst 0, 1) (List.mem_of_getElem? (i := 16) rfl)),
  List.forall_mem_cons.mpr ⟨sd_oStI 139 28 5 (by decide) (dk_139_0 (28, .istore 5, 2) (List.mem_of_getElem? (i := 17) rfl)),
  List.forall_mem_cons.mpr ⟨sd_oLdI 139 30 5 (dk_139_0 (30, .iload 5, 2) (List.mem_of_getElem? (i := 18) rfl)),
  List.forall_mem_cons.mpr ⟨sd_oLdR_n 139 32 0 0 rfl (dk_139_0 (32, .aload_n 0, 1) (List.mem_of_getElem? (i := 19) rfl)),
  List.forall_mem_cons.mpr ⟨sd_oGetI 139 33 7 7 76 RX6 TX6 23 rfl ⟨by decide, by decide⟩ rfl (by decide) rfl (fun w h => iw_139 w (uz_6 w h)) rfl (iw_139 _ zw359) (dk_139_0 (33, .getfield 76, 3) (List.mem_of_getElem? (i := 20) rfl)),
  List.forall_mem_cons.mpr ⟨sd_icmp_ge 139 36 94 130 (by decide) (dk_139_0 (36, .if_icmp .ge 94, 3) (List.mem_of_getElem? (i := 21) rfl)),
  List.forall_mem_cons.mpr ⟨sd_oLdR_n 139 39 0 0 rfl (dk_139_0 (39, .aload_n 0, 1) (List.mem_of_getElem? (i := 22) rfl)),
  List.forall_mem_cons.mpr ⟨sd_oLdI 139 40 5 (dk_139_0 (40, .iload 5, 2) (List.mem_of_getElem? (i := 23) rfl)),
  List.forall_mem_cons.mpr ⟨sd_callV 139 42 120 1 2 149 7 [] (gdV hws_139 hws_120 zw421 zw422 zw423 zw358 zw420) hws_120 rfl (by decide +kernel) rfl rfl ⟨by decide +kernel, by decide +kernel, by decide +kernel⟩ ⟨by decide, by decide⟩ (catch_nil rfl) RX6 rfl TX6 23 rfl ⟨by decide, by decide⟩ (dk_139_0 (42, .invokevirtual 149, 3) (List.mem_of_getElem? (i := 24) rfl)),
  List.forall_mem_cons.mpr ⟨sd_if_eq 139 45 79 124 (by decide) (dk_139_0 (45, .ifCond .eq 79, 3) (List.mem_of_getElem? (i := 25) rfl)),
  List.forall_mem_cons.mpr ⟨sd_oLdR_n 139 48 0 0 rfl (dk_139_0 (48, .aload_n 0, 1) (List.mem_of_getElem? (i := 26) rfl)),
  List.forall_mem_cons.mpr ⟨sd_oLdI_n 139 49 1 1 rfl (dk_139_0 (49, .iload_n 1, 1) (List.mem_of_getElem? (i := 27) rfl)),
  List.forall_mem_cons.mpr ⟨sd_oLdI 139 50 5 (dk_139_0 (50, .iload 5, 2) (List.mem_of_getElem? (i := 28) rfl)),
  List.forall_mem_cons.mpr ⟨sd_callV 139 52 109 2 3 126 7 [] (gdV hws_139 hws_109 zw394 zw395 zw396 zw358 zw393) hws_109 rfl (by decide +kernel) rfl rfl ⟨by decide +kernel, by decide +kernel, by decide +kernel⟩ ⟨by decide, by decide⟩ (catch_nil rfl) RX6 rfl TX6 23 rfl ⟨by decide, by decide⟩ (dk_139_0 (52, .invokevirtual 126, 3) (List.mem_of_getElem? (i := 29) rfl)),
  List.forall_mem_cons.mpr ⟨sd_if_eq 139 55 69 124 (by decide) (dk_139_0 (55, .ifCond .eq 69, 3) (List.mem_of_getElem? (i := 30) rfl)),
  List.forall_mem_cons.mpr ⟨sd_oLdI_n 139 58 2 2 rfl (dk_139_0 (58, .iload_n 2, 1) (List.mem_of_getElem? (i := 31) rfl)),
  List.forall_mem_cons.mpr ⟨sd_if_ne 139 59 16 75 (by decide) (dk_139_0 (59, .ifCond .ne 16, 3) (List.mem_of_getElem? (i := 32) rfl)),
  List.forall_mem_cons.mpr ⟨sd_oLdR_n 139 62 0 0 rfl (dk_139_0 (62, .aload_n 0, 1) (List.mem_of_getElem? (i := 33) rfl)),
  List.forall_mem_cons.mpr ⟨sd_oGetR 139 63 7 18 51 RX6 TX6 23 rfl ⟨by decide, by decide⟩ rfl (by decide) rfl (fun w h => iw_139 w (uz_6 w h)) rfl (iw_139 _ zw348) (dk_139_0 (63, .getfield 51, 3) (List.mem_of_getElem? (i := 34) rfl)),
  fun _ h => nomatch h⟩⟩⟩⟩⟩⟩⟩⟩⟩⟩⟩⟩⟩⟩⟩⟩⟩⟩⟩⟩⟩⟩⟩⟩⟩⟩⟩⟩⟩⟩⟩⟩⟩⟩⟩
def tb_139_1 : List (Nat × Op1) := [(66, oLdI 5 2), (68, oALdI 12), (69, oZeq 75), (72, oGoto 124), (75, oLdI 4 2), (77, oInc 4 1), (80, oStI 6 2), (82, oLdI 6 2), (84, oZle 118), (87, oLdR 0 1), (88, oLdI 5 2), (90, oLdR 3 1), (91, oLdI 6 2), (93, oCI 1 1), (94, oSub), (95, oALdI 10), (96, oCallV 138 2 3 7 []), (99, oZeq 118), (102, oLdR 3 1), (103, oLdI 6 2), (105, oLdR 3 1), (106, oLdI 6 2), (108, oCI 1 1), (109, oSub), (110, oALdI 10), (111, oAStI), (112, oInc 6 (-1)), (115, oGoto 82), (118, oLdR 3 1), (119, oLdI 6 2), (121, oLdI 5 2), (123, oAStI), (124, oInc 5 1), (127, oGoto 30)]
theorem sm_139_1 : ∀ q ∈ tb_139_1, SM GwP MdP D A l 139 q.1 q.2 :=
  List.forall_mem_cons.mpr ⟨sd_oLdI 139 66 5 (dk_139_0 (66, .iload 5, 2) (List.mem_of_getElem? (i := 35) rfl)),
  List.forall_mem_cons.mpr ⟨sd_zald 139 68 (dk_139_0 (68, .baload, 1) (List.mem_of_getElem? (i := 36) rfl)),
  List.forall_mem_cons.mpr ⟨sd_if_eq 139 69 6 75 (by decide) (dk_139_0 (69, .ifCond .eq 6, 3) (List.mem_of_getElem? (i := 37) rfl)),
  List.forall_mem_cons.mpr ⟨sd_goto 139 72 52 124 (by decide) (dk_139_0 (72, .goto 52, 3) (List.mem_of_getElem? (i := 38) rfl)),
  List.forall_mem_cons.mpr ⟨sd_oLdI 139 75 4 (dk_139_0 (75, .iload 4, 2) (List.mem_of_getElem? (i := 39) rfl)),
  List.forall_mem_cons.mpr ⟨sd_iinc 139 77 4 1 (by decide) (dk_139_1 (77, .iinc 4 1, 3) (List.mem_of_getElem? (i := 0) rfl)),
  List.forall_mem_cons.mpr ⟨sd_oStI 139 80 6 (by decide) (dk_139_1 (80, .istore 6, 2) (List.mem_of_getElem? (i := 1) rfl)),
  List.forall_mem_cons.mpr ⟨sd_oLdI 139 82 6 (dk_139_1 (82, .iload 6, 2) (List.mem_of_getElem? (i := 2) rfl)),
  List.forall_mem_cons.mpr ⟨sd_if_le 139 84 34 118 (by decide) (dk_139_1 (84, .ifCond .le 34, 3) (List.mem_of_getElem? (i := 3) rfl)),
  List.forall_mem_cons.mpr ⟨sd_oLdR_n 139 87 0 0 rfl (dk_139_1 (87, .aload_n 0, 1) (List.mem_of_getElem? (i := 4) rfl)),
  List.forall_mem_cons.mpr ⟨sd_oLdI 139 88 5 (dk_139_1 (88, .iload 5, 2) (List.mem_of_getElem? (i := 5) rfl)),
  List.forall_mem_cons.mpr ⟨sd_oLdR_n 139 90 3 3 rfl (dk_139_1 (90, .aload_n 3, 1) (List.mem_of_getElem? (i := 6) rfl)),
  List.forall_mem_cons.mpr ⟨sd_oLdI 139 91 6 (dk_139_1 (91, .iload 6, 2) (List.mem_of_getElem? (i := 7) rfl)),
  List.forall_mem_cons.mpr ⟨sd_iconst 139 93 1 ⟨by decide, by decide⟩ (dk_139_1 (93, .iconst 1, 1) (List.mem_of_getElem? (i := 8) rfl)),
  List.forall_mem_cons.mpr ⟨sd_isub 139 94 (dk_139_1 (94, .isub, 1) (List.mem_of_getElem? (i := 9) rfl)),
  List.forall_mem_cons.mpr ⟨sd_iald 139 95 (dk_139_1 (95, .iaload, 1) (List.mem_of_getElem? (i := 10) rfl)),
  List.forall_mem_cons.mpr ⟨sd_callV 139 96 138 2 3 186 7 [] (gdV hws_139 hws_138 zw466 zw467 zw468 zw358 zw465) hws_138 rfl (by decide +kernel) rfl rfl ⟨by decide +kernel, by decide +kernel, by decide +kernel⟩ ⟨by decide, by decide⟩ (catch_nil rfl) RX6 rfl TX6 23 rfl ⟨by decide, by decide⟩ (dk_139_1 (96, .invokevirtual 186, 3) (List.mem_of_getElem? (i := 11) rfl)),
  List.forall_mem_cons.mpr ⟨sd_if_eq 139 99 19 118 (by decide) (dk_139_1 (99, .ifCond .eq 19, 3) (List.mem_of_getElem? (i := 12) rfl)),
  List.forall_mem_cons.mpr ⟨sd_oLdR_n 139 102 3 3 rfl (dk_139_1 (102, .aload_n 3, 1) (List.mem_of_getElem? (i := 13) rfl)),
  List.forall_mem_cons.mpr ⟨sd_oLdI 139 103 6 (dk_139_1 (103, .iload 6, 2) (List.mem_of_getElem? (i := 14) rfl)),
  List.forall_mem_cons.mpr ⟨sd_oLdR_n 139 105 3 3 rfl (dk_139_1 (105, .aload_n 3, 1) (List.mem_of_getElem? (i := 15) rfl)),
  List.forall_mem_cons.mpr ⟨sd_oLdI 139 106 6 (dk_139_1 (106, .iload 6, 2) (List.mem_of_getElem? (i := 16) rfl)),
  List.forall_mem_cons.mpr ⟨sd_iconst 139 108 1 ⟨by decide, by decide⟩ (dk_139_1 (108, .iconst 1, 1) (List.mem_of_getElem? (i := 17) rfl)),
  List.forall_mem_cons.mpr ⟨sd_isub 139 109 (dk_139_1 (109, .isub, 1) (List.mem_of_getElem? (i := 18) rfl)),
  List.forall_mem_cons.mpr ⟨sd_iald 139 110 (dk_139_1 (110, .iaload, 1) (List.mem_of_getElem? (i := 19) rfl)),
  List.forall_mem_cons.mpr ⟨sd_iast 139 111 (dk_139_1 (111, .iastore, 1) (List.mem_of_getElem? (i := 20) rfl)),
  List.forall_mem_cons.mpr ⟨sd_iinc 139 112 6 (-1) (by decide) (dk_139_1 (112, .iinc 6 (-1), 3) (List.mem_of_getElem? (i := 21) rfl)),
  List.forall_mem_cons.mpr ⟨sd_goto 139 115 (-33) 82 (by decide) (dk_139_1 (115, .goto (-33), 3) (List.mem_of_getElem? (i := 22) rfl)),
  List.forall_mem_cons.mpr ⟨sd_oLdR_n 139 118 3 3 rfl (dk_139_1 (118, .aload_n 3, 1) (List.mem_of_getElem? (i := 23) rfl)),
  List.forall_mem_cons.mpr ⟨sd_oLdI 139 119 6 (dk_139_1 (119, .iload 6, 2) (List.mem_of_getElem? (i := 24) rfl)),
  List.forall_mem_cons.mpr ⟨sd_oLdI 139 121 5 (dk_139_1 (121, .iload 5, 2) (List.mem_of_getElem? (i := 25) rfl)),
  List.forall_mem_cons.mpr ⟨sd_iast 139 123 (dk_139_1 (123, .iastore, 1) (List.mem_of_getElem? (i := 26) rfl)),
  List.forall_mem_cons.mpr ⟨sd_iinc 139 124 5 1 (by decide) (dk_139_1 (124, .iinc 5 1, 3) (List.mem_of_getElem? (i := 27) rfl)),
  List.forall_mem_cons.mpr ⟨sd_goto 139 127 (-97) 30 (by decide) (dk_139_1 (127, .goto (-97), 3) (List.mem_of_getElem? (i := 28) rfl)),
  fun _ h => nomatch h⟩⟩⟩⟩⟩⟩⟩⟩⟩⟩⟩⟩⟩⟩⟩⟩⟩⟩⟩⟩⟩⟩⟩⟩⟩⟩⟩⟩⟩⟩⟩⟩⟩⟩
def tb_139_2 : List (Nat × Op1) := [(130, oCI 240 3), (133, oNewA 10 2), (135, oStR 5 2), (137, oCI 0 1), (138, oStI 6 2), (140, oCI 0 1), (141, oStI 7 2), (143, oLdI 7 2), (145, oLdI 4 2), (147, oCge 251), (150, oLdR 0 1), (151, oLdR 3 1), (152, oLdI 7 2), (154, oALdI 10), (155, oCallV 132 1 3 7 []), (158, oCI 0 1), (159, oStI 8 2), (161, oLdI 8 2), (163, oLdR 0 1), (164, oGetI 7 21), (167, oCge 245), (170, oCI 4 1), (171, oNewA 10 2), (173, oDup), (174, oCI 0 1), (175, oLdR 0 1), (176, oGetR 7 22), (179, oLdI 8 2), (181, oALdI 10), (182, oAStI), (183, oDup), (184, oCI 1 1), (185, oLdR 0 1), (186, oLdR 0 1), (187, oGetR 7 22), (190, oLdI 8 2)]
theorem sm_139_2 : ∀ q ∈ tb_139_2, SM GwP MdP D A l 139 q.1 q.2 :=
  List.forall_mem_cons.mpr ⟨sd_sipush 139 130 240 ⟨by decide, by decide⟩ (by decide) (dk_139_1 (130, .sipush 240, 3) (List.mem_of_getElem? (i := 29) rfl)),
  List.forall_mem_cons.mpr ⟨sd_newA 139 133 10 .int (Or.inl ⟨rfl, rfl⟩) (iw_139 _ zw22) (dk_139_1 (133, .newarray .int, 2) (List.mem_of_getElem? (i := 30) rfl)),
  List.forall_mem_cons.mpr ⟨sd_oStR 139 135 5 (by decide) (dk_139_1 (135, .astore 5, 2) (List.mem_of_getElem? (i := 31) rfl)),
  List.forall_mem_cons.mpr ⟨sd_iconst 139 137 0 ⟨by decide, by decide⟩ (dk_139_1 (137, .iconst 0, 1) (List.mem_of_getElem? (i := 32) rfl)),
  List.forall_mem_cons.mpr ⟨sd_oStI 139 138 6 (by decide) (dk_139_1 (138, .istore 6, 2) (List.mem_of_getElem? (i := 33) rfl)),
  List.forall_mem_cons.mpr ⟨sd_iconst 139 140 0 ⟨by decide, by decide⟩ (dk_139_1 (140, .iconst 0, 1) (List.mem_of_getElem? (i := 34) rfl)),
  List.forall_mem_cons.mpr ⟨sd_oStI 139 141 7 (by decide) (dk_139_1 (141, .istore 7, 2) (List.mem_of_getElem? (i := 35) rfl)),
  List.forall_mem_cons.mpr ⟨sd_oLdI 139 143 7 (dk_139_1 (143, .iload 7, 2) (List.mem_of_getElem? (i := 36) rfl)),
  List.forall_mem_cons.mpr ⟨sd_oLdI 139 145 4 (dk_139_1 (145, .iload 4, 2) (List.mem_of_getElem? (i := 37) rfl)),
  List.forall_mem_cons.mpr ⟨sd_icmp_ge 139 147 104 251 (by decide) (dk_139_1 (147, .if_icmp .ge 104, 3) (List.mem_of_getElem? (i := 38) rfl)),
  List.forall_mem_cons.mpr ⟨sd_oLdR_n 139 150 0 0 rfl (dk_139_1 (150, .aload_n 0, 1) (List.mem_of_getElem? (i := 39) rfl)),
  List.forall_mem_cons.mpr ⟨sd_oLdR_n 139 151 3 3 rfl (dk_139_2 (151, .aload_n 3, 1) (List.mem_of_getElem? (i := 0) rfl)),
  List.forall_mem_cons.mpr ⟨sd_oLdI 139 152 7 (dk_139_2 (152, .iload 7, 2) (List.mem_of_getElem? (i := 1) rfl)),
  List.forall_mem_cons.mpr ⟨sd_iald 139 154 (dk_139_2 (154, .iaload, 1) (List.mem_of_getElem? (i := 2) rfl)),
  List.forall_mem_cons.mpr ⟨sd_callV 139 155 132 1 3 179 7 [] (gdV hws_139 hws_132 zw458 zw459 zw460 zw358 zw457) hws_132 rfl (by decide +kernel) rfl rfl ⟨by decide +kernel, by decide +kernel, by decide +kernel⟩ ⟨by decide, by decide⟩ (catch_nil rfl) RX6 rfl TX6 23 rfl ⟨by decide, by decide⟩ (dk_139_2 (155, .invokevirtual 179, 3) (List.mem_of_getElem? (i := 3) rfl)),
  List.forall_mem_cons.mpr ⟨sd_iconst 139 158 0 ⟨by decide, by decide⟩ (dk_139_2 (158, .iconst 0, 1) (List.mem_of_getElem? (i := 4) rfl)),
  List.forall_mem_cons.mpr ⟨sd_oStI 139 159 8 (by decide) (dk_139_2 (159, .istore 8, 2) (List.mem_of_getElem? (i := 5) rfl)),
  List.forall_mem_cons.mpr ⟨sd_oLdI 139 161 8 (dk_139_2 (161, .iload 8, 2) (List.mem_of_getElem? (i := 6) rfl)),
  List.forall_mem_cons.mpr ⟨sd_oLdR_n 139 163 0 0 rfl (dk_139_2 (163, .aload_n 0, 1) (List.mem_of_getElem? (i := 7) rfl)),
  List.forall_mem_cons.mpr ⟨sd_oGetI 139 164 7 21 170 RX6 TX6 23 rfl ⟨by decide, by decide⟩ rfl (by decide) rfl (fun w h => iw_139 w (uz_6 w h)) rfl (iw_139 _ zw448) (dk_139_2 (164, .getfield 170, 3) (List.mem_of_getElem? (i := 8) rfl)),
  List.forall_mem_cons.mpr ⟨sd_icmp_ge 139 167 78 245 (by decide) (dk_139_2 (167, .if_icmp .ge 78, 3) (List.mem_of_getElem? (i := 9) rfl)),
  List.forall_mem_cons.mpr ⟨sd_iconst 139 170 4 ⟨by decide, by decide⟩ (dk_139_2 (170, .iconst 4, 1) (List.mem_of_getElem? (i := 10) rfl)),
  List.forall_mem_cons.mpr ⟨sd_newA 139 171 10 .int (Or.inl ⟨rfl, rfl⟩) (iw_139 _ zw22) (dk_139_2 (171, .newarray .int, 2) (List.mem_of_getElem? (i := 11) rfl)),
  List.forall_mem_cons.mpr ⟨sd_dup 139 173 (dk_139_2 (173, .dup, 1) (List.mem_of_getElem? (i := 12) rfl)),
  List.forall_mem_cons.mpr ⟨sd_iconst 139 174 0 ⟨by decide, by decide⟩ (dk_139_2 (174, .iconst 0, 1) (List.mem_of_getElem? (i := 13) rfl)),
  List.forall_mem_cons.mpr ⟨sd_oLdR_n 139 175 0 0 rfl (dk_139_2 (175, .aload_n 0, 1) (List.mem_of_getElem? (i := 14) rfl)),
  List.forall_mem_cons.mpr ⟨sd_oGetR 139 176 7 22 62 RX6 TX6 23 rfl ⟨by decide, by decide⟩ rfl (by decide) rfl (fun w h => iw_139 w (uz_6 w h)) rfl (iw_139 _ zw352) (dk_139_2 (176, .getfield 62, 3) (List.mem_of_getElem? (i := 15) rfl)),
  List.forall_mem_cons.mpr ⟨sd_oLdI 139 179 8 (dk_139_2 (179, .iload 8, 2) (List.mem_of_getElem? (i := 16) rfl)),
  List.forall_mem_cons.mpr ⟨sd_iald 139 181 (dk_139_2 (181, .iaload, 1) (List.mem_of_getElem? (i := 17) rfl)),
  List.forall_mem_cons.mpr ⟨sd_iast 139 182 (dk_139_2 (182, .iastore, 1) (List.mem_of_getElem? (i := 18) rfl)),
  List.forall_mem_cons.mpr ⟨sd_dup 139 183 (dk_139_2 (183, .dup, 1) (List.mem_of_getElem? (i := 19) rfl)),
  List.forall_mem_cons.mpr ⟨sd_iconst 139 184 1 ⟨by decide, by decide⟩ (dk_139_2 (184, .iconst 1, 1) (List.mem_of_getElem? (i := 20) rfl)),
  List.forall_mem_cons.mpr ⟨sd_oLdR_n 139 185 0 0 rfl (dk_139_2 (185, .aload_n 0, 1) (List.mem_of_getElem? (i := 21) rfl)),
  List.forall_mem_cons.mpr ⟨sd_oLdR_n 139 186 0 0 rfl (dk_139_2 (186, .aload_n 0, 1) (List.mem_of_getElem? (i := 22) rfl)),
  List.forall_mem_cons.mpr ⟨sd_oGetR 139 187 7 22 62 RX6 TX6 23 rfl ⟨by decide, by decide⟩ rfl (by decide) rfl (fun w h => iw_139 w (uz_6 w h)) rfl (iw_139 _ zw352) (dk_139_2 (187, .getfield 62, 3) (List.mem_of_getElem? (i := 23) rfl)),
  List.forall_mem_cons.mpr ⟨sd_oLdI 139 190 8 (dk_139_2 (190, .iload 8, 2) (List.mem_of_getElem? (i := 24) rfl)),
  fun _ h => nomatch h⟩⟩⟩⟩⟩⟩⟩⟩⟩⟩⟩⟩⟩⟩⟩⟩⟩⟩⟩⟩⟩⟩⟩⟩⟩⟩⟩⟩⟩⟩⟩⟩⟩⟩⟩⟩
def tb_139_3 : List (Nat × Op1) := [(192, oALdI 10), (193, oCallV 126 1 4 7 []), (196, oAStI), (197, oDup), (198, oCI 2 1), (199, oLdR 0 1), (200, oGetR 7 13), (203, oLdR 3 1), (204, oLdI 7 2), (206, oALdI 10), (207, oALdI 10), (208, oAStI), (209, oDup), (210, oCI 3 1), (211, oLdR 0 1), (212, oLdR 0 1), (213, oGetR 7 22), (216, oLdI 8 2), (218, oALdI 10), (219, oCallV 127 1 2 7 []), (222, oAStI), (223, oStR 9 2), (225, oLdR 9 2), (227, oCI 0 1), (228, oLdR 5 2), (230, oLdI 6 2), (232, oCI 4 1), (233, oCpy), (236, oInc 6 4), (239, oInc 8 1), (242, oGoto 161), (245, oInc 7 1), (248, oGoto 143), (251, oLdR 0 1), (252, oLdI 6 2), (254, oNewA 10 2)]
theorem sm_139_3 : ∀ q ∈ tb_139_3, SM GwP MdP D A l 139 q.1 q.2 :=
  List.forall_mem_cons.mpr ⟨sd_iald 139 192 (dk_139_2 (192, .iaload, 1) (List.mem_of_getElem? (i := 25) rfl)),
  List.forall_mem_cons.mpr ⟨sd_callV 139 193 126 1 4 164 7 [] (gdV hws_139 hws_126 zw441 zw442 zw443 zw358 zw440) hws_126 rfl (by decide +kernel) rfl rfl ⟨by decide +kernel, by decide +kernel, by decide +kernel⟩ ⟨by decide, by decide⟩ (catch_nil rfl) RX6 rfl TX6 23 rfl ⟨by decide, by decide⟩ (dk_139_2 (193, .invokevirtual 164, 3) (List.mem_of_getElem? (i := 26) rfl)),
  List.forall_mem_cons.mpr ⟨sd_iast 139 196 (dk_139_2 (196, .iastore, 1) (List.mem_of_getElem? (i := 27) rfl)),
  List.forall_mem_cons.mpr ⟨sd_dup 139 197 (dk_139_2 (197, .dup, 1) (List.mem_of_getElem? (i := 28) rfl)),
  List.forall_mem_cons.mpr ⟨sd_iconst 139 198 2 ⟨by decide, by decide⟩ (dk_139_2 (198, .iconst 2, 1) (List.mem_of_getElem? (i := 29) rfl)),
  List.forall_mem_cons.mpr ⟨sd_oLdR_n 139 199 0 0 rfl (dk_139_2 (199, .aload_n 0, 1) (List.mem_of_getElem? (i := 30) rfl)),
  List.forall_mem_cons.mpr ⟨sd_oGetR 139 200 7 13 36 RX6 TX6 23 rfl ⟨by decide, by decide⟩ rfl (by decide) rfl (fun w h => iw_139 w (uz_6 w h)) rfl (iw_139 _ zw342) (dk_139_2 (200, .getfield 36, 3) (List.mem_of_getElem? (i := 31) rfl)),
  List.forall_mem_cons.mpr ⟨sd_oLdR_n 139 203 3 3 rfl (dk_139_2 (203, .aload_n 3, 1) (List.mem_of_getElem? (i := 32) rfl)),
  List.forall_mem_cons.mpr ⟨sd_oLdI 139 204 7 (dk_139_2 (204, .iload 7, 2) (List.mem_of_getElem? (i := 33) rfl)),
  List.forall_mem_cons.mpr ⟨sd_iald 139 206 (dk_139_2 (206, .iaload, 1) (List.mem_of_getElem? (i := 34) rfl)),
  List.forall_mem_cons.mpr ⟨sd_iald 139 207 (dk_139_2 (207, .iaload, 1) (List.mem_of_getElem? (i := 35) rfl)),
  List.forall_mem_cons.mpr ⟨sd_iast 139 208 (dk_139_2 (208, .iastore, 1) (List.mem_of_getElem? (i := 36) rfl)),
  List.forall_mem_cons.mpr ⟨sd_dup 139 209 (dk_139_2 (209, .dup, 1) (List.mem_of_getElem? (i := 37) rfl)),
  List.forall_mem_cons.mpr ⟨sd_iconst 139 210 3 ⟨by decide, by decide⟩ (dk_139_2 (210, .iconst 3, 1) (List.mem_of_getElem? (i := 38) rfl)),
  List.forall_mem_cons.mpr ⟨sd_oLdR_n 139 211 0 0 rfl (dk_139_2 (211, .aload_n 0, 1) (List.mem_of_getElem? (i := 39) rfl)),
  List.forall_mem_cons.mpr ⟨sd_oLdR_n 139 212 0 0 rfl (dk_139_3 (212, .aload_n 0, 1) (List.mem_of_getElem? (i := 0) rfl)),
  List.forall_mem_cons.mpr ⟨sd_oGetR 139 213 7 22 62 RX6 TX6 23 rfl ⟨by decide, by decide⟩ rfl (by decide) rfl (fun w h => iw_139 w (uz_6 w h)) rfl (iw_139 _ zw352) (dk_139_3 (213, .getfield 62, 3) (List.mem_of_getElem? (i := 1) rfl)),
  List.forall_mem_cons.mpr ⟨sd_oLdI 139 216 8 (dk_139_3 (216, .iload 8, 2) (List.mem_of_getElem? (i := 2) rfl)),
  List.forall_mem_cons.mpr ⟨sd_iald 139 218 (dk_139_3 (218, .iaload, 1) (List.mem_of_getElem? (i := 3) rfl)),
  List.forall_mem_cons.mpr ⟨sd_callV 139 219 127 1 2 161 7 [] (gdV hws_139 hws_127 zw437 zw438 zw439 zw358 zw436) hws_127 rfl (by decide +kernel) rfl rfl ⟨by decide +kernel, by decide +kernel, by decide +kernel⟩ ⟨by decide, by decide⟩ (catch_nil rfl) RX6 rfl TX6 23 rfl ⟨by decide, by decide⟩ (dk_139_3 (219, .invokevirtual 161, 3) (List.mem_of_getElem? (i := 4) rfl)),
  List.forall_mem_cons.mpr ⟨sd_iast 139 222 (dk_139_3 (222, .iastore, 1) (List.mem_of_getElem? (i := 5) rfl)),
  List.forall_mem_cons.mpr ⟨sd_oStR 139 223 9 (by decide) (dk_139_3 (223, .astore 9, 2) (List.mem_of_getElem? (i := 6) rfl)),
  List.forall_mem_cons.mpr ⟨sd_oLdR 139 225 9 (dk_139_3 (225, .aload 9, 2) (List.mem_of_getElem? (i := 7) rfl)),
  List.forall_mem_cons.mpr ⟨sd_iconst 139 227 0 ⟨by decide, by decide⟩ (dk_139_3 (227, .iconst 0, 1) (List.mem_of_getElem? (i := 8) rfl)),
  List.forall_mem_cons.mpr ⟨sd_oLdR 139 228 5 (dk_139_3 (228, .aload 5, 2) (List.mem_of_getElem? (i := 9) rfl)),
  List.forall_mem_cons.mpr ⟨sd_oLdI 139 230 6 (dk_139_3 (230, .iload 6, 2) (List.mem_of_getElem? (i := 10) rfl)),
  List.forall_mem_cons.mpr ⟨sd_iconst 139 232 4 ⟨by decide, by decide⟩ (dk_139_3 (232, .iconst 4, 1) (List.mem_of_getElem? (i := 11) rfl)),
  List.forall_mem_cons.mpr ⟨sd_cpy 139 233 94 (iw_139 _ zw373) (iw_139 _ zw70) (iw_139 _ zw71) (iw_139 _ zw72) (by decide) (by decide) (dk_139_3 (233, .invokestatic 94, 3) (List.mem_of_getElem? (i := 12) rfl)),
  List.forall_mem_cons.mpr ⟨sd_iinc 139 236 6 4 (by decide) (dk_139_3 (236, .iinc 6 4, 3) (List.mem_of_getElem? (i := 13) rfl)),
  List.forall_mem_cons.mpr ⟨sd_iinc 139 239 8 1 (by decide) (dk_139_3 (239, .iinc 8 1, 3) (List.mem_of_getElem? (i := 14) rfl)),
  List.forall_mem_cons.mpr ⟨sd_goto 139 242 (-81) 161 (by decide) (dk_139_3 (242, .goto (-81), 3) (List.mem_of_getElem? (i := 15) rfl)),
  List.forall_mem_cons.mpr ⟨sd_iinc 139 245 7 1 (by decide) (dk_139_3 (245, .iinc 7 1, 3) (List.mem_of_getElem? (i := 16) rfl)),
  List.forall_mem_cons.mpr ⟨sd_goto 139 248 (-105) 143 (by decide) (dk_139_3 (248, .goto (-105), 3) (List.mem_of_getElem? (i := 17) rfl)),
  List.forall_mem_cons.mpr ⟨sd_oLdR_n 139 251 0 0 rfl (dk_139_3 (251, .aload_n 0, 1) (List.mem_of_getElem? (i := 18) rfl)),
  List.forall_mem_cons.mpr ⟨sd_oLdI 139 252 6 (dk_139_3 (252, .iload 6, 2) (List.mem_of_getElem? (i := 19) rfl)),
  List.forall_mem_cons.mpr ⟨sd_newA 139 254 10 .int (Or.inl ⟨rfl, rfl⟩) (iw_139 _ zw22) (dk_139_3 (254, .newarray .int, 2) (List.mem_of_getElem? (i := 20) rfl)),
  fun _ h => nomatch h⟩⟩⟩⟩⟩⟩⟩⟩⟩⟩⟩⟩⟩⟩⟩⟩⟩⟩⟩⟩⟩⟩⟩⟩⟩⟩⟩⟩⟩⟩⟩⟩⟩⟩⟩⟩
def tb_139_4 : List (Nat × Op1) := [(256, oPutR 7 20), (259, oLdR 5 2), (261, oCI 0 1), (262, oLdR 0 1), (263, oGetR 7 20), (266, oCI 0 1), (267, oLdI 6 2), (269, oCpy), (272, oLdI 6 2), (274, oCI 4 1), (275, oDiv), (276, oRetI)]
theorem sm_139_4 : ∀ q ∈ tb_139_4, SM GwP MdP D A l 139 q.1 q.2 :=
  List.forall_mem_cons.mpr ⟨sd_oPutR 139 256 7 20 59 RX6 TX6 23 rfl ⟨by decide, by decide⟩ rfl (by decide) rfl (fun w h => iw_139 w (uz_6 w h)) rfl tyX6 tyX6_ok nmX6 (Or.inr ⟨_, rfl⟩) rfl (iw_139 _ zw351) (dk_139_3 (256, .putfield 59, 3) (List.mem_of_getElem? (i := 21) rfl)),
  List.forall_mem_cons.mpr ⟨sd_oLdR 139 259 5 (dk_139_3 (259, .aload 5, 2) (List.mem_of_getElem? (i := 22) rfl)),
  List.forall_mem_cons.mpr ⟨sd_iconst 139 261 0 ⟨by decide, by decide⟩ (dk_139_3 (261, .iconst 0, 1) (List.mem_of_getElem? (i := 23) rfl)),
  List.forall_mem_cons.mpr ⟨sd_oLdR_n 139 262 0 0 rfl (dk_139_3 (262, .aload_n 0, 1) (List.mem_of_getElem? (i := 24) rfl)),
  List.forall_mem_cons.mpr ⟨sd_oGetR 139 263 7 20 59 RX6 TX6 23 rfl ⟨by decide, by decide⟩ rfl (by decide) rfl (fun w h => iw_139 w (uz_6 w h)) rfl (iw_139 _ zw351) (dk_139_3 (263, .getfield 59, 3) (List.mem_of_getElem? (i := 25) rfl)),
  List.forall_mem_cons.mpr ⟨sd_iconst 139 266 0 ⟨by decide, by decide⟩ (dk_139_3 (266, .iconst 0, 1) (List.mem_of_getElem? (i := 26) rfl)),
  List.forall_mem_cons.mpr ⟨sd_oLdI 139 267 6 (dk_139_3 (267, .iload 6, 2) (List.mem_of_getElem? (i := 27) rfl)),
  List.forall_mem_cons.mpr ⟨sd_cpy 139 269 94 (iw_139 _ zw373) (iw_139 _ zw70) (iw_139 _ zw71) (iw_139 _ zw72) (by decide) (by decide) (dk_139_3 (269, .invokestatic 94, 3) (List.mem_of_getElem? (i := 28) rfl)),
  List.forall_mem_cons.mpr ⟨sd_oLdI 139 272 6 (dk_139_3 (272, .iload 6, 2) (List.mem_of_getElem? (i := 29) rfl)),
  List.forall_mem_cons.mpr ⟨sd_iconst 139 274 4 ⟨by decide, by decide⟩ (dk_139_3 (274, .iconst 4, 1) (List.mem_of_getElem? (i := 30) rfl)),
  List.forall_mem_cons.mpr ⟨sd_idiv 139 275 (dk_139_3 (275, .idiv, 1) (List.mem_of_getElem? (i := 31) rfl)),
  List.forall_mem_cons.mpr ⟨sd_iret 139 276 rfl (dk_139_3 (276, .ireturn, 1) (List.mem_of_getElem? (i := 32) rfl)),
  fun _ h => nomatch h⟩⟩⟩⟩⟩⟩⟩⟩⟩⟩⟩⟩
def tb_139 : List (List (Nat × Op1)) := [tb_139_0, tb_139_1, tb_139_2, tb_139_3, tb_139_4]
theorem sm_139 : ∀ t ∈ tb_139, ∀ q ∈ t, SM GwP MdP D A l 139 q.1 q.2 := List.forall_mem_cons.mpr ⟨sm_139_0, List.forall_mem_cons.mpr ⟨sm_139_1, List.forall_mem_cons.mpr ⟨sm_139_2, List.forall_mem_cons.mpr ⟨sm_139_3, List.forall_mem_cons.mpr ⟨sm_139_4, fun _ h => nomatch h⟩⟩⟩⟩⟩
-- 140: MarginaliaModel.exported(II)I
def dl_140_0 : List (Nat × Instr × Nat) := [(0, .aload_n 0, 1), (1, .iconst 0, 1), (2, .putfield 65, 3), (5, .iload_n 1, 1), (6, .iconst 0, 1), (7, .aload_n 0, 1), (8, .getfield 59, 3), (11, .arraylength, 1), (12, .iconst 4, 1), (13, .idiv, 1), (14, .iconst 1, 1), (15, .isub, 1), (16, .invokestatic 72, 3), (19, .ifCond .ne 9, 3), (22, .aload_n 0, 1), (23, .iconst 1, 1), (24, .invokevirtual 82, 3), (27, .ireturn, 1), (28, .iload_n 2, 1), (29, .iconst 0, 1), (30, .iconst 3, 1), (31, .invokestatic 72, 3), (34, .ifCond .eq 16, 3), (37, .aload_n 0, 1), (38, .getfield 59, 3), (41, .iconst 4, 1), (42, .iload_n 1, 1), (43, .imul, 1), (44, .iload_n 2, 1), (45, .iadd, 1), (46, .iaload, 1), (47, .goto 8, 3), (50, .aload_n 0, 1), (51, .iconst 2, 1), (52, .invokevirtual 82, 3), (55, .ireturn, 1)]
theorem dk_140_0 : ∀ q ∈ dl_140_0, decode (mCod (MdP 140)) q.1 = .ok q.2 := by
  rw [show mCod (MdP 140) = cX6_exported from rfl]
  decide +kernel
def tb_140_0 : List (Nat × Op1) := [(0, oLdR 0 1), (1, oCI 0 1), (2, oPutI 7 0), (5, oLdI 1 1), (6, oCI 0 1), (7, oLdR 0 1), (8, oGetR 7 20), (11, oALen 10), (12, oCI 4 1), (13, oDiv), (14, oCI 1 1), (15, oSub), (16, oCallS 94 3 3 []), (19, oZne 28), (22, oLdR 0 1), (23, oCI 1 1), (24, oCallV 91 1 2 7 []), (27, oRetI), (28, oLdI 2 1), (29, oCI 0 1), (30, oCI 3 1), (31, oCallS 94 3 3 []), (34, oZeq 50), (37, oLdR 0 1), (38, oGetR 7 20), (41, oCI 4 1), (42, oLdI 1 1), (43, oMul), (44, oLdI 2 1), (45, oAdd), (46, oALdI 10), (47, oGoto 55), (50, oLdR 0 1), (51, oCI 2 1), (52, oCallV 91 1 2 7 []), (55, oRetI)]
theorem sm_140_0 : ∀ q ∈ tb_140_0, SM GwP MdP D A l 140 q.1 q.2 :=
  List.forall_mem_cons.mpr ⟨sd_oLdR_n 140 0 0 0 rfl (dk_140_0 (0, .aload_n 0, 1) (List.mem_of_getElem? (i := 0) rfl)),
  List.forall_mem_cons.mpr ⟨sd_iconst 140 1 0 ⟨by decide, by decide⟩ (dk_140_0 (1, .iconst 0, 1) (List.mem_of_getElem? (i := 1) rfl)),
  List.forall_mem_cons.mpr ⟨sd_oPutI 140 2 7 0 65 RX6 TX6 23 rfl ⟨by decide, by decide⟩ rfl (by decide) rfl (fun w h => iw_140 w (uz_6 w h)) rfl tyX6 tyX6_ok nmX6 rfl rfl (iw_140 _ zw353) (dk_140_0 (2, .putfield 65, 3) (List.mem_of_getElem? (i := 2) rfl)),
  List.forall_mem_cons.mpr ⟨sd_oLdI_n 140 5 1 1 rfl (dk_140_0 (5, .iload_n 1, 1) (List.mem_of_getElem? (i := 3) rfl)),
  List.forall_mem_cons.mpr ⟨sd_iconst 140 6 0 ⟨by decide, by decide⟩ (dk_140_0 (6, .iconst 0, 1) (List.mem_of_getElem? (i := 4) rfl)),
  List.forall_mem_cons.mpr ⟨sd_oLdR_n 140 7 0 0 rfl (dk_140_0 (7, .aload_n 0, 1) (List.mem_of_getElem? (i := 5) rfl)),
  List.forall_mem_cons.mpr ⟨sd_oGetR 140 8 7 20 59 RX6 TX6 23 rfl ⟨by decide, by decide⟩ rfl (by decide) rfl (fun w h => iw_140 w (uz_6 w h)) rfl (iw_140 _ zw351) (dk_140_0 (8, .getfield 59, 3) (List.mem_of_getElem? (i := 6) rfl)),
  List.forall_mem_cons.mpr ⟨sd_alen 140 11 10 ⟨by decide, by decide⟩ (dk_140_0 (11, .arraylength, 1) (List.mem_of_getElem? (i := 7) rfl)),
  List.forall_mem_cons.mpr ⟨sd_iconst 140 12 4 ⟨by decide, by decide⟩ (dk_140_0 (12, .iconst 4, 1) (List.mem_of_getElem? (i := 8) rfl)),
  List.forall_mem_cons.mpr ⟨sd_idiv 140 13 (dk_140_0 (13, .idiv, 1) (List.mem_of_getElem? (i := 9) rfl)),
  List.forall_mem_cons.mpr ⟨sd_iconst 140 14 1 ⟨by decide, by decide⟩ (dk_140_0 (14, .iconst 1, 1) (List.mem_of_getElem? (i := 10) rfl)),
  List.forall_mem_cons.mpr ⟨sd_isub 140 15 (dk_140_0 (15, .isub, 1) (List.mem_of_getElem? (i := 11) rfl)),
  List.forall_mem_cons.mpr ⟨sd_callS 140 16 94 3 3 72 [] (gdS hws_140 hws_94 zw356 zw357 zw358 zw355) hws_94 rfl (by decide +kernel) rfl rfl ⟨by decide +kernel, by decide +kernel, by decide +kernel⟩ ⟨by decide, by decide⟩ (catch_nil rfl) (dk_140_0 (16, .invokestatic 72, 3) (List.mem_of_getElem? (i := 12) rfl)),
  List.forall_mem_cons.mpr ⟨sd_if_ne 140 19 9 28 (by decide) (dk_140_0 (19, .ifCond .ne 9, 3) (List.mem_of_getElem? (i := 13) rfl)),
  List.forall_mem_cons.mpr ⟨sd_oLdR_n 140 22 0 0 rfl (dk_140_0 (22, .aload_n 0, 1) (List.mem_of_getElem? (i := 14) rfl)),
  List.forall_mem_cons.mpr ⟨sd_iconst 140 23 1 ⟨by decide, by decide⟩ (dk_140_0 (23, .iconst 1, 1) (List.mem_of_getElem? (i := 15) rfl)),
  List.forall_mem_cons.mpr ⟨sd_callV 140 24 91 1 2 82 7 [] (gdV hws_140 hws_91 zw362 zw363 zw364 zw358 zw361) hws_91 rfl (by decide +kernel) rfl rfl ⟨by decide +kernel, by decide +kernel, by decide +kernel⟩ ⟨by decide, by decide⟩ (catch_nil rfl) RX6 rfl TX6 23 rfl ⟨by decide, by decide⟩ (dk_140_0 (24, .invokevirtual 82, 3) (List.mem_of_getElem? (i := 16) rfl)),
  List.forall_mem_cons.mpr ⟨sd_iret 140 27 rfl (dk_140_0 (27, .ireturn, 1) (List.mem_of_getElem? (i := 17) rfl)),
  List.forall_mem_cons.mpr ⟨sd_oLdI_n 140 28 2 2 rfl (dk_140_0 (28, .iload_n 2, 1) (List.mem_of_getElem? (i := 18) rfl)),
  List.forall_mem_cons.mpr ⟨sd_iconst 140 29 0 ⟨by decide, by decide⟩ (dk_140_0 (29, .iconst 0, 1) (List.mem_of_getElem? (i := 19) rfl)),
  List.forall_mem_cons.mpr ⟨sd_iconst 140 30 3 ⟨by decide, by decide⟩ (dk_140_0 (30, .iconst 3, 1) (List.mem_of_getElem? (i := 20) rfl)),
  List.forall_mem_cons.mpr ⟨sd_callS 140 31 94 3 3 72 [] (gdS hws_140 hws_94 zw356 zw357 zw358 zw355) hws_94 rfl (by decide +kernel) rfl rfl ⟨by decide +kernel, by decide +kernel, by decide +kernel⟩ ⟨by decide, by decide⟩ (catch_nil rfl) (dk_140_0 (31, .invokestatic 72, 3) (List.mem_of_getElem? (i := 21) rfl)),
  List.forall_mem_cons.mpr ⟨sd_if_eq 140 34 16 50 (by decide) (dk_140_0 (34, .ifCond .eq 16, 3) (List.mem_of_getElem? (i := 22) rfl)),
  List.forall_mem_cons.mpr ⟨sd_oLdR_n 140 37 0 0 rfl (dk_140_0 (37, .aload_n 0, 1) (List.mem_of_getElem? (i := 23) rfl)),
  List.forall_mem_cons.mpr ⟨sd_oGetR 140 38 7 20 59 RX6 TX6 23 rfl ⟨by decide, by decide⟩ rfl (by decide) rfl (fun w h => iw_140 w (uz_6 w h)) rfl (iw_140 _ zw351) (dk_140_0 (38, .getfield 59, 3) (List.mem_of_getElem? (i := 24) rfl)),
  List.forall_mem_cons.mpr ⟨sd_iconst 140 41 4 ⟨by decide, by decide⟩ (dk_140_0 (41, .iconst 4, 1) (List.mem_of_getElem? (i := 25) rfl)),
  List.forall_mem_cons.mpr ⟨sd_oLdI_n 140 42 1 1 rfl (dk_140_0 (42, .iload_n 1, 1) (List.mem_of_getElem? (i := 26) rfl)),
  List.forall_mem_cons.mpr ⟨sd_imul 140 43 (dk_140_0 (43, .imul, 1) (List.mem_of_getElem? (i := 27) rfl)),
  List.forall_mem_cons.mpr ⟨sd_oLdI_n 140 44 2 2 rfl (dk_140_0 (44, .iload_n 2, 1) (List.mem_of_getElem? (i := 28) rfl)),
  List.forall_mem_cons.mpr ⟨sd_iadd 140 45 (dk_140_0 (45, .iadd, 1) (List.mem_of_getElem? (i := 29) rfl)),
  List.forall_mem_cons.mpr ⟨sd_iald 140 46 (dk_140_0 (46, .iaload, 1) (List.mem_of_getElem? (i := 30) rfl)),
  List.forall_mem_cons.mpr ⟨sd_goto 140 47 8 55 (by decide) (dk_140_0 (47, .goto 8, 3) (List.mem_of_getElem? (i := 31) rfl)),
  List.forall_mem_cons.mpr ⟨sd_oLdR_n 140 50 0 0 rfl (dk_140_0 (50, .aload_n 0, 1) (List.mem_of_getElem? (i := 32) rfl)),
  List.forall_mem_cons.mpr ⟨sd_iconst 140 51 2 ⟨by decide, by decide⟩ (dk_140_0 (51, .iconst 2, 1) (List.mem_of_getElem? (i := 33) rfl)),
  List.forall_mem_cons.mpr ⟨sd_callV 140 52 91 1 2 82 7 [] (gdV hws_140 hws_91 zw362 zw363 zw364 zw358 zw361) hws_91 rfl (by decide +kernel) rfl rfl ⟨by decide +kernel, by decide +kernel, by decide +kernel⟩ ⟨by decide, by decide⟩ (catch_nil rfl) RX6 rfl TX6 23 rfl ⟨by decide, by decide⟩ (dk_140_0 (52, .invokevirtual 82, 3) (List.mem_of_getElem? (i := 34) rfl)),
  List.forall_mem_cons.mpr ⟨sd_iret 140 55 rfl (dk_140_0 (55, .ireturn, 1) (List.mem_of_getElem? (i := 35) rfl)),
  fun _ h => nomatch h⟩⟩⟩⟩⟩⟩⟩⟩⟩⟩⟩⟩⟩⟩⟩⟩⟩⟩⟩⟩⟩⟩⟩⟩⟩⟩⟩⟩⟩⟩⟩⟩⟩⟩⟩⟩
def tb_140 : List (List (Nat × Op1)) := [tb_140_0]
theorem sm_140 : ∀ t ∈ tb_140, ∀ q ∈ t, SM GwP MdP D A l 140 q.1 q.2 := List.forall_mem_cons.mpr ⟨sm_140_0, fun _ h => nomatch h⟩
-- 141: MarginaliaModel.meanThread()D
def dl_141_0 : List (Nat × Instr × Nat) := [(0, .aload_n 0, 1), (1, .iconst 0, 1), (2, .putfield 65, 3), (5, .aload_n 0, 1), (6, .iconst 2, 1), (7, .invokevirtual 158, 3), (10, .ifCond .ne 7, 3), (13, .dconst 0, 1), (14, .goto 16, 3), (17, .aload_n 0, 1), (18, .iconst 1, 1), (19, .invokevirtual 158, 3), (22, .i2d, 1), (23, .aload_n 0, 1), (24, .iconst 2, 1), (25, .invokevirtual 158, 3), (28, .i2d, 1), (29, .ddiv, 1), (30, .dreturn, 1)]
theorem dk_141_0 : ∀ q ∈ dl_141_0, decode (mCod (MdP 141)) q.1 = .ok q.2 := by
  rw [show mCod (MdP 141) = cX6_meanThread from rfl]
  decide +kernel
def tb_141_0 : List (Nat × Op1) := [(0, oLdR 0 1), (1, oCI 0 1), (2, oPutI 7 0), (5, oLdR 0 1), (6, oCI 2 1), (7, oCallV 123 1 5 7 []), (10, oZne 17), (13, oCD), (14, oGoto 30), (17, oLdR 0 1), (18, oCI 1 1), (19, oCallV 123 1 5 7 []), (22, oI2D), (23, oLdR 0 1), (24, oCI 2 1), (25, oCallV 123 1 5 7 []), (28, oI2D), (29, oDDiv), (30, oRetD)]
theorem sm_141_0 : ∀ q ∈ tb_141_0, SM GwP MdP D A l 141 q.1 q.2 :=
  List.forall_mem_cons.mpr ⟨sd_oLdR_n 141 0 0 0 rfl (dk_141_0 (0, .aload_n 0, 1) (List.mem_of_getElem? (i := 0) rfl)),
  List.forall_mem_cons.mpr ⟨sd_iconst 141 1 0 ⟨by decide, by decide⟩ (dk_141_0 (1, .iconst 0, 1) (List.mem_of_getElem? (i := 1) rfl)),
  List.forall_mem_cons.mpr ⟨sd_oPutI 141 2 7 0 65 RX6 TX6 23 rfl ⟨by decide, by decide⟩ rfl (by decide) rfl (fun w h => iw_141 w (uz_6 w h)) rfl tyX6 tyX6_ok nmX6 rfl rfl (iw_141 _ zw353) (dk_141_0 (2, .putfield 65, 3) (List.mem_of_getElem? (i := 2) rfl)),
  List.forall_mem_cons.mpr ⟨sd_oLdR_n 141 5 0 0 rfl (dk_141_0 (5, .aload_n 0, 1) (List.mem_of_getElem? (i := 3) rfl)),
  List.forall_mem_cons.mpr ⟨sd_iconst 141 6 2 ⟨by decide, by decide⟩ (dk_141_0 (6, .iconst 2, 1) (List.mem_of_getElem? (i := 4) rfl)),
  List.forall_mem_cons.mpr ⟨sd_callV 141 7 123 1 5 158 7 [] (gdV hws_141 hws_123 zw433 zw434 zw435 zw358 zw432) hws_123 rfl (by decide +kernel) rfl rfl ⟨by decide +kernel, by decide +kernel, by decide +kernel⟩ ⟨by decide, by decide⟩ (catch_nil rfl) RX6 rfl TX6 23 rfl ⟨by decide, by decide⟩ (dk_141_0 (7, .invokevirtual 158, 3) (List.mem_of_getElem? (i := 5) rfl)),
  List.forall_mem_cons.mpr ⟨sd_if_ne 141 10 7 17 (by decide) (dk_141_0 (10, .ifCond .ne 7, 3) (List.mem_of_getElem? (i := 6) rfl)),
  List.forall_mem_cons.mpr ⟨sd_dconst0 141 13 (dk_141_0 (13, .dconst 0, 1) (List.mem_of_getElem? (i := 7) rfl)),
  List.forall_mem_cons.mpr ⟨sd_goto 141 14 16 30 (by decide) (dk_141_0 (14, .goto 16, 3) (List.mem_of_getElem? (i := 8) rfl)),
  List.forall_mem_cons.mpr ⟨sd_oLdR_n 141 17 0 0 rfl (dk_141_0 (17, .aload_n 0, 1) (List.mem_of_getElem? (i := 9) rfl)),
  List.forall_mem_cons.mpr ⟨sd_iconst 141 18 1 ⟨by decide, by decide⟩ (dk_141_0 (18, .iconst 1, 1) (List.mem_of_getElem? (i := 10) rfl)),
  List.forall_mem_cons.mpr ⟨sd_callV 141 19 123 1 5 158 7 [] (gdV hws_141 hws_123 zw433 zw434 zw435 zw358 zw432) hws_123 rfl (by decide +kernel) rfl rfl ⟨by decide +kernel, by decide +kernel, by decide +kernel⟩ ⟨by decide, by decide⟩ (catch_nil rfl) RX6 rfl TX6 23 rfl ⟨by decide, by decide⟩ (dk_141_0 (19, .invokevirtual 158, 3) (List.mem_of_getElem? (i := 11) rfl)),
  List.forall_mem_cons.mpr ⟨sd_i2d 141 22 (dk_141_0 (22, .i2d, 1) (List.mem_of_getElem? (i := 12) rfl)),
  List.forall_mem_cons.mpr ⟨sd_oLdR_n 141 23 0 0 rfl (dk_141_0 (23, .aload_n 0, 1) (List.mem_of_getElem? (i := 13) rfl)),
  List.forall_mem_cons.mpr ⟨sd_iconst 141 24 2 ⟨by decide, by decide⟩ (dk_141_0 (24, .iconst 2, 1) (List.mem_of_getElem? (i := 14) rfl)),
  List.forall_mem_cons.mpr ⟨sd_callV 141 25 123 1 5 158 7 [] (gdV hws_141 hws_123 zw433 zw434 zw435 zw358 zw432) hws_123 rfl (by decide +kernel) rfl rfl ⟨by decide +kernel, by decide +kernel, by decide +kernel⟩ ⟨by decide, by decide⟩ (catch_nil rfl) RX6 rfl TX6 23 rfl ⟨by decide, by decide⟩ (dk_141_0 (25, .invokevirtual 158, 3) (List.mem_of_getElem? (i := 15) rfl)),
  List.forall_mem_cons.mpr ⟨sd_i2d 141 28 (dk_141_0 (28, .i2d, 1) (List.mem_of_getElem? (i := 16) rfl)),
  List.forall_mem_cons.mpr ⟨sd_ddiv 141 29 (dk_141_0 (29, .ddiv, 1) (List.mem_of_getElem? (i := 17) rfl)),
  List.forall_mem_cons.mpr ⟨sd_dret 141 30 rfl (dk_141_0 (30, .dreturn, 1) (List.mem_of_getElem? (i := 18) rfl)),
  fun _ h => nomatch h⟩⟩⟩⟩⟩⟩⟩⟩⟩⟩⟩⟩⟩⟩⟩⟩⟩⟩⟩
def tb_141 : List (List (Nat × Op1)) := [tb_141_0]
theorem sm_141 : ∀ t ∈ tb_141, ∀ q ∈ t, SM GwP MdP D A l 141 q.1 q.2 := List.forall_mem_cons.mpr ⟨sm_141_0, fun _ h => nomatch h⟩
-- 142: MarginaliaModel.lostBy(II)I
def dl_142_0 : List (Nat × Instr × Nat) := [(0, .aload_n 0, 1), (1, .iconst 0, 1), (2, .putfield 65, 3), (5, .iload_n 1, 1), (6, .iconst 0, 1), (7, .aload_n 0, 1), (8, .invokevirtual 90, 3), (11, .arraylength, 1), (12, .iconst 1, 1), (13, .isub, 1), (14, .invokestatic 72, 3), (17, .ifCond .ne 9, 3), (20, .aload_n 0, 1), (21, .iconst 1, 1), (22, .invokevirtual 82, 3), (25, .ireturn, 1), (26, .iload_n 2, 1), (27, .iconst 1, 1), (28, .aload_n 0, 1), (29, .invokevirtual 90, 3), (32, .arraylength, 1), (33, .iload_n 1, 1), (34, .isub, 1), (35, .invokestatic 72, 3), (38, .ifCond .ne 9, 3), (41, .aload_n 0, 1), (42, .iconst 2, 1), (43, .invokevirtual 82, 3), (46, .ireturn, 1), (47, .iconst 0, 1), (48, .istore_n 3, 1), (49, .iconst 0, 1), (50, .istore 4, 2), (52, .iload 4, 2), (54, .aload_n 0, 1), (55, .getfield 76, 3), (58, .if_icmp .ge 59, 3), (61, .iload_n 3, 1), (62, .aload_n 0, 1), (63, .iload 4, 2)]
theorem dk_142_0 : ∀ q ∈ dl_142_0, decode (mCod (MdP 142)) q.1 = .ok q.2 := by
  rw [show mCod (MdP 142) = cX6_lostBy from rfl]
  decide +kernel
def dl_142_1 : List (Nat × Instr × Nat) := [(65, .invokevirtual 149, 3), (68, .ifCond .eq 40, 3), (71, .aload_n 0, 1), (72, .iload 4, 2), (74, .invokevirtual 152, 3), (77, .ifCond .ne 31, 3), (80, .aload_n 0, 1), (81, .getfield 36, 3), (84, .iload 4, 2), (86, .iaload, 1), (87, .iload_n 1, 1), (88, .if_icmp .lt 20, 3), (91, .aload_n 0, 1), (92, .getfield 39, 3), (95, .iload 4, 2), (97, .iaload, 1), (98, .iload_n 1, 1), (99, .iload_n 2, 1), (100, .iadd, 1), (101, .if_icmp .gt 7, 3), (104, .iconst 1, 1), (105, .goto 4, 3), (108, .iconst 0, 1), (109, .iadd, 1), (110, .istore_n 3, 1), (111, .iinc 4 1, 3), (114, .goto (-62), 3), (117, .iload_n 3, 1), (118, .ireturn, 1)]
theorem dk_142_1 : ∀ q ∈ dl_142_1, decode (mCod (MdP 142)) q.1 = .ok q.2 := by
  rw [show mCod (MdP 142) = cX6_lostBy from rfl]
  decide +kernel
def tb_142_0 : List (Nat × Op1) := [(0, oLdR 0 1), (1, oCI 0 1), (2, oPutI 7 0), (5, oLdI 1 1), (6, oCI 0 1), (7, oLdR 0 1), (8, oCallV 97 0 1 7 []), (11, oALen 10), (12, oCI 1 1), (13, oSub), (14, oCallS 94 3 3 []), (17, oZne 26), (20, oLdR 0 1), (21, oCI 1 1), (22, oCallV 91 1 2 7 []), (25, oRetI), (26, oLdI 2 1), (27, oCI 1 1), (28, oLdR 0 1), (29, oCallV 97 0 1 7 []), (32, oALen 10), (33, oLdI 1 1), (34, oSub), (35, oCallS 94 3 3 []), (38, oZne 47), (41, oLdR 0 1), (42, oCI 2 1), (43, oCallV 91 1 2 7 []), (46, oRetI), (47, oCI 0 1), (48, oStI 3 1), (49, oCI 0 1), (50, oStI 4 2), (52, oLdI 4 2), (54, oLdR 0 1), (55, oGetI 7 7), (58, oCge 117), (61, oLdI 3 1), (62, oLdR 0 1), (63, oLdI 4 2)]
theorem sm_142_0 : ∀ q ∈ tb_142_0, SM GwP MdP D A l 142 q.1 q.2 :=
  List.forall_mem_cons.mpr ⟨sd_oLdR_n 142 0 0 0 rfl (dk_142_0 (0, .aload_n 0, 1) (List.mem_of_getElem? (i := 0) rfl)),
  List.forall_mem_cons.mpr ⟨sd_iconst 142 1 0 ⟨by decide, by decide⟩ (dk_142_0 (1, .iconst 0, 1) (List.mem_of_getElem? (i := 1) rfl)),
  List.forall_mem_cons.mpr ⟨sd_oPutI 142 2 7 0 65 RX6 TX6 23 rfl ⟨by decide, by decide⟩ rfl (by decide) rfl (fun w h => iw_142 w (uz_6 w h)) rfl tyX6 tyX6_ok nmX6 rfl rfl (iw_142 _ zw353) (dk_142_0 (2, .putfield 65, 3) (List.mem_of_getElem? (i := 2) rfl)),
  List.forall_mem_cons.mpr ⟨sd_oLdI_n 142 5 1 1 rfl (dk_142_0 (5, .iload_n 1, 1) (List.mem_of_getElem? (i := 3) rfl)),
  List.forall_mem_cons.mpr ⟨sd_iconst 142 6 0 ⟨by decide, by decide⟩ (dk_142_0 (6, .iconst 0, 1) (List.mem_of_getElem? (i := 4) rfl)),
  List.forall_mem_cons.mpr ⟨sd_oLdR_n 142 7 0 0 rfl (dk_142_0 (7, .aload_n 0, 1) (List.mem_of_getElem? (i := 5) rfl)),
  List.forall_mem_cons.mpr ⟨sd_callV 142 8 97 0 1 90 7 [] (gdV hws_142 hws_97 zw370 zw371 zw372 zw358 zw369) hws_97 rfl (by decide +kernel) rfl rfl ⟨by decide +kernel, by decide +kernel, by decide +kernel⟩ ⟨by decide, by decide⟩ (catch_nil rfl) RX6 rfl TX6 23 rfl ⟨by decide, by decide⟩ (dk_142_0 (8, .invokevirtual 90, 3) (List.mem_of_getElem? (i := 6) rfl)),
  List.forall_mem_cons.mpr ⟨sd_alen 142 11 10 ⟨by decide, by decide⟩ (dk_142_0 (11, .arraylength, 1) (List.mem_of_getElem? (i := 7) rfl)),
  List.forall_mem_cons.mpr ⟨sd_iconst 142 12 1 ⟨by decide, by decide⟩ (dk_142_0 (12, .iconst 1, 1) (List.mem_of_getElem? (i := 8) rfl)),
  List.forall_mem_cons.mpr ⟨sd_isub 142 13 (dk_142_0 (13, .isub, 1) (List.mem_of_getElem? (i := 9) rfl)),
  List.forall_mem_cons.mpr ⟨sd_callS 142 14 94 3 3 72 [] (gdS hws_142 hws_94 zw356 zw357 zw358 zw355) hws_94 rfl (by decide +kernel) rfl rfl ⟨by decide +kernel, by decide +kernel, by decide +kernel⟩ ⟨by decide, by decide⟩ (catch_nil rfl) (dk_142_0 (14, .invokestatic 72, 3) (List.mem_of_getElem? (i := 10) rfl)),
  List.forall_mem_cons.mpr ⟨sd_if_ne 142 17 9 26 (by decide) (dk_142_0 (17, .ifCond .ne 9, 3) (List.mem_of_getElem? (i := 11) rfl)),
  List.forall_mem_cons.mpr ⟨sd_oLdR_n 142 20 0 0 rfl (dk_142_0 (20, .aload_n 0, 1) (List.mem_of_getElem? (i := 12) rfl)),
  List.forall_mem_cons.mpr ⟨sd_iconst 142 21 1 ⟨by decide, by decide⟩ (dk_142_0 (21, .iconst 1, 1) (List.mem_of_getElem? (i := 13) rfl)),
  List.forall_mem_cons.mpr ⟨sd_callV 142 22 91 1 2 82 7 [] (gdV hws_142 hws_91 zw362 zw363 zw364 zw358 zw361) hws_91 rfl (by decide +kernel) rfl rfl ⟨by decide +kernel, by decide +kernel, by decide +kernel⟩ ⟨by decide, by decide⟩ (catch_nil rfl) RX6 rfl TX6 23 rfl ⟨by decide, by decide⟩ (dk_142_0 (22, .invokevirtual 82, 3) (List.mem_of_getElem? (i := 14) rfl)),
  List.forall_mem_cons.mpr ⟨sd_iret 142 25 rfl (dk_142_0 (25, .ireturn, 1) (List.mem_of_getElem? (i := 15) rfl)),
  List.forall_mem_cons.mpr ⟨sd_oLdI_n 142 26 2 2 rfl (dk_142_0 (26, .iload_n 2, 1) (List.mem_of_getElem? (i := 16) rfl)),
  List.forall_mem_cons.mpr ⟨sd_iconst 142 27 1 ⟨by decide, by decide⟩ (dk_142_0 (27, .iconst 1, 1) (List.mem_of_getElem? (i := 17) rfl)),
  List.forall_mem_cons.mpr ⟨sd_oLdR_n 142 28 0 0 rfl (dk_142_0 (28, .aload_n 0, 1) (List.mem_of_getElem? (i := 18) rfl)),
  List.forall_mem_cons.mpr ⟨sd_callV 142 29 97 0 1 90 7 [] (gdV hws_142 hws_97 zw370 zw371 zw372 zw358 zw369) hws_97 rfl (by decide +kernel) rfl rfl ⟨by decide +kernel, by decide +kernel, by decide +kernel⟩ ⟨by decide, by decide⟩ (catch_nil rfl) RX6 rfl TX6 23 rfl ⟨by decide, by decide⟩ (dk_142_0 (29, .invokevirtual 90, 3) (List.mem_of_getElem? (i := 19) rfl)),
  List.forall_mem_cons.mpr ⟨sd_alen 142 32 10 ⟨by decide, by decide⟩ (dk_142_0 (32, .arraylength, 1) (List.mem_of_getElem? (i := 20) rfl)),
  List.forall_mem_cons.mpr ⟨sd_oLdI_n 142 33 1 1 rfl (dk_142_0 (33, .iload_n 1, 1) (List.mem_of_getElem? (i := 21) rfl)),
  List.forall_mem_cons.mpr ⟨sd_isub 142 34 (dk_142_0 (34, .isub, 1) (List.mem_of_getElem? (i := 22) rfl)),
  List.forall_mem_cons.mpr ⟨sd_callS 142 35 94 3 3 72 [] (gdS hws_142 hws_94 zw356 zw357 zw358 zw355) hws_94 rfl (by decide +kernel) rfl rfl ⟨by decide +kernel, by decide +kernel, by decide +kernel⟩ ⟨by decide, by decide⟩ (catch_nil rfl) (dk_142_0 (35, .invokestatic 72, 3) (List.mem_of_getElem? (i := 23) rfl)),
  List.forall_mem_cons.mpr ⟨sd_if_ne 142 38 9 47 (by decide) (dk_142_0 (38, .ifCond .ne 9, 3) (List.mem_of_getElem? (i := 24) rfl)),
  List.forall_mem_cons.mpr ⟨sd_oLdR_n 142 41 0 0 rfl (dk_142_0 (41, .aload_n 0, 1) (List.mem_of_getElem? (i := 25) rfl)),
  List.forall_mem_cons.mpr ⟨sd_iconst 142 42 2 ⟨by decide, by decide⟩ (dk_142_0 (42, .iconst 2, 1) (List.mem_of_getElem? (i := 26) rfl)),
  List.forall_mem_cons.mpr ⟨sd_callV 142 43 91 1 2 82 7 [] (gdV hws_142 hws_91 zw362 zw363 zw364 zw358 zw361) hws_91 rfl (by decide +kernel) rfl rfl ⟨by decide +kernel, by decide +kernel, by decide +kernel⟩ ⟨by decide, by decide⟩ (catch_nil rfl) RX6 rfl TX6 23 rfl ⟨by decide, by decide⟩ (dk_142_0 (43, .invokevirtual 82, 3) (List.mem_of_getElem? (i := 27) rfl)),
  List.forall_mem_cons.mpr ⟨sd_iret 142 46 rfl (dk_142_0 (46, .ireturn, 1) (List.mem_of_getElem? (i := 28) rfl)),
  List.forall_mem_cons.mpr ⟨sd_iconst 142 47 0 ⟨by decide, by decide⟩ (dk_142_0 (47, .iconst 0, 1) (List.mem_of_getElem? (i := 29) rfl)),
  List.forall_mem_cons.mpr ⟨sd_oStI_n 142 48 3 3 rfl (by decide) (dk_142_0 (48, .istore_n 3, 1) (List.mem_of_getElem? (i := 30) rfl)),
  List.forall_mem_cons.mpr ⟨sd_iconst 142 49 0 ⟨by decide, by decide⟩ (dk_142_0 (49, .iconst 0, 1) (List.mem_of_getElem? (i := 31) rfl)),
  List.forall_mem_cons.mpr ⟨sd_oStI 142 50 4 (by decide) (dk_142_0 (50, .istore 4, 2) (List.mem_of_getElem? (i := 32) rfl)),
  List.forall_mem_cons.mpr ⟨sd_oLdI 142 52 4 (dk_142_0 (52, .iload 4, 2) (List.mem_of_getElem? (i := 33) rfl)),
  List.forall_mem_cons.mpr ⟨sd_oLdR_n 142 54 0 0 rfl (dk_142_0 (54, .aload_n 0, 1) (List.mem_of_getElem? (i := 34) rfl)),
  List.forall_mem_cons.mpr ⟨sd_oGetI 142 55 7 7 76 RX6 TX6 23 rfl ⟨by decide, by decide⟩ rfl (by decide) rfl (fun w h => iw_142 w (uz_6 w h)) rfl (iw_142 _ zw359) (dk_142_0 (55, .getfield 76, 3) (List.mem_of_getElem? (i := 35) rfl)),
  List.forall_mem_cons.mpr ⟨sd_icmp_ge 142 58 59 117 (by decide) (dk_142_0 (58, .if_icmp .ge 59, 3) (List.mem_of_getElem? (i := 36) rfl)),
  List.forall_mem_cons.mpr ⟨sd_oLdI_n 142 61 3 3 rfl (dk_142_0 (61, .iload_n 3, 1) (List.mem_of_getElem? (i := 37) rfl)),
  List.forall_mem_cons.mpr ⟨sd_oLdR_n 142 62 0 0 rfl (dk_142_0 (62, .aload_n 0, 1) (List.mem_of_getElem? (i := 38) rfl)),
  List.forall_mem_cons.mpr ⟨sd_oLdI 142 63 4 (dk_142_0 (63, .iload 4, 2) (List.mem_of_getElem? (i := 39) rfl)),
  fun _ h => nomatch h⟩⟩⟩⟩⟩⟩⟩⟩⟩⟩⟩⟩⟩⟩⟩⟩⟩⟩⟩⟩⟩⟩⟩⟩⟩⟩⟩⟩⟩⟩⟩⟩⟩⟩⟩⟩⟩⟩⟩⟩
def tb_142_1 : List (Nat × Op1) := [(65, oCallV 120 1 2 7 []), (68, oZeq 108), (71, oLdR 0 1), (72, oLdI 4 2), (74, oCallV 121 1 2 7 []), (77, oZne 108), (80, oLdR 0 1), (81, oGetR 7 13), (84, oLdI 4 2), (86, oALdI 10), (87, oLdI 1 1), (88, oClt 108), (91, oLdR 0 1), (92, oGetR 7 14), (95, oLdI 4 2), (97, oALdI 10), (98, oLdI 1 1), (99, oLdI 2 1), (100, oAdd), (101, oCgt 108), (104, oCI 1 1), (105, oGoto 109), (108, oCI 0 1), (109, oAdd), (110, oStI 3 1), (111, oInc 4 1), (114, oGoto 52), (117, oLdI 3 1), (118, oRetI)]
theorem sm_142_1 : ∀ q ∈ tb_142_1, SM GwP MdP D A l 142 q.1 q.2 :=
  List.forall_mem_cons.mpr ⟨sd_callV 142 65 120 1 2 149 7 [] (gdV hws_142 hws_120 zw421 zw422 zw423 zw358 zw420) hws_120 rfl (by decide +kernel) rfl rfl ⟨by decide +kernel, by decide +kernel, by decide +kernel⟩ ⟨by decide, by decide⟩ (catch_nil rfl) RX6 rfl TX6 23 rfl ⟨by decide, by decide⟩ (dk_142_1 (65, .invokevirtual 149, 3) (List.mem_of_getElem? (i := 0) rfl)),
  List.forall_mem_cons.mpr ⟨sd_if_eq 142 68 40 108 (by decide) (dk_142_1 (68, .ifCond .eq 40, 3) (List.mem_of_getElem? (i := 1) rfl)),
  List.forall_mem_cons.mpr ⟨sd_oLdR_n 142 71 0 0 rfl (dk_142_1 (71, .aload_n 0, 1) (List.mem_of_getElem? (i := 2) rfl)),
  List.forall_mem_cons.mpr ⟨sd_oLdI 142 72 4 (dk_142_1 (72, .iload 4, 2) (List.mem_of_getElem? (i := 3) rfl)),
  List.forall_mem_cons.mpr ⟨sd_callV 142 74 121 1 2 152 7 [] (gdV hws_142 hws_121 zw425 zw426 zw427 zw358 zw424) hws_121 rfl (by decide +kernel) rfl rfl ⟨by decide +kernel, by decide +kernel, by decide +kernel⟩ ⟨by decide, by decide⟩ (catch_nil rfl) RX6 rfl TX6 23 rfl ⟨by decide, by decide⟩ (dk_142_1 (74, .invokevirtual 152, 3) (List.mem_of_getElem? (i := 4) rfl)),
  List.forall_mem_cons.mpr ⟨sd_if_ne 142 77 31 108 (by decide) (dk_142_1 (77, .ifCond .ne 31, 3) (List.mem_of_getElem? (i := 5) rfl)),
  List.forall_mem_cons.mpr ⟨sd_oLdR_n 142 80 0 0 rfl (dk_142_1 (80, .aload_n 0, 1) (List.mem_of_getElem? (i := 6) rfl)),
  List.forall_mem_cons.mpr ⟨sd_oGetR 142 81 7 13 36 RX6 TX6 23 rfl ⟨by decide, by decide⟩ rfl (by decide) rfl (fun w h => iw_142 w (uz_6 w h)) rfl (iw_142 _ zw342) (dk_142_1 (81, .getfield 36, 3) (List.mem_of_getElem? (i := 7) rfl)),
  List.forall_mem_cons.mpr ⟨sd_oLdI 142 84 4 (dk_142_1 (84, .iload 4, 2) (List.mem_of_getElem? (i := 8) rfl)),
  List.forall_mem_cons.mpr ⟨sd_iald 142 86 (dk_142_1 (86, .iaload, 1) (List.mem_of_getElem? (i := 9) rfl)),
  List.forall_mem_cons.mpr ⟨sd_oLdI_n 142 87 1 1 rfl (dk_142_1 (87, .iload_n 1, 1) (List.mem_of_getElem? (i := 10) rfl)),
  List.forall_mem_cons.mpr ⟨sd_icmp_lt 142 88 20 108 (by decide) (dk_142_1 (88, .if_icmp .lt 20, 3) (List.mem_of_getElem? (i := 11) rfl)),
  List.forall_mem_cons.mpr ⟨sd_oLdR_n 142 91 0 0 rfl (dk_142_1 (91, .aload_n 0, 1) (List.mem_of_getElem? (i := 12) rfl)),
  List.forall_mem_cons.mpr ⟨sd_oGetR 142 92 7 14 39 RX6 TX6 23 rfl ⟨by decide, by decide⟩ rfl (by decide) rfl (fun w h => iw_142 w (uz_6 w h)) rfl (iw_142 _ zw343) (dk_142_1 (92, .getfield 39, 3) (List.mem_of_getElem? (i := 13) rfl)),
  List.forall_mem_cons.mpr ⟨sd_oLdI 142 95 4 (dk_142_1 (95, .iload 4, 2) (List.mem_of_getElem? (i := 14) rfl)),
  List.forall_mem_cons.mpr ⟨sd_iald 142 97 (dk_142_1 (97, .iaload, 1) (List.mem_of_getElem? (i := 15) rfl)),
  List.forall_mem_cons.mpr ⟨sd_oLdI_n 142 98 1 1 rfl (dk_142_1 (98, .iload_n 1, 1) (List.mem_of_getElem? (i := 16) rfl)),
  List.forall_mem_cons.mpr ⟨sd_oLdI_n 142 99 2 2 rfl (dk_142_1 (99, .iload_n 2, 1) (List.mem_of_getElem? (i := 17) rfl)),
  List.forall_mem_cons.mpr ⟨sd_iadd 142 100 (dk_142_1 (100, .iadd, 1) (List.mem_of_getElem? (i := 18) rfl)),
  List.forall_mem_cons.mpr ⟨sd_icmp_gt 142 101 7 108 (by decide) (dk_142_1 (101, .if_icmp .gt 7, 3) (List.mem_of_getElem? (i := 19) rfl)),
  List.forall_mem_cons.mpr ⟨sd_iconst 142 104 1 ⟨by decide, by decide⟩ (dk_142_1 (104, .iconst 1, 1) (List.mem_of_getElem? (i := 20) rfl)),
  List.forall_mem_cons.mpr ⟨sd_goto 142 105 4 109 (by decide) (dk_142_1 (105, .goto 4, 3) (List.mem_of_getElem? (i := 21) rfl)),
  List.forall_mem_cons.mpr ⟨sd_iconst 142 108 0 ⟨by decide, by decide⟩ (dk_142_1 (108, .iconst 0, 1) (List.mem_of_getElem? (i := 22) rfl)),
  List.forall_mem_cons.mpr ⟨sd_iadd 142 109 (dk_142_1 (109, .iadd, 1) (List.mem_of_getElem? (i := 23) rfl)),
  List.forall_mem_cons.mpr ⟨sd_oStI_n 142 110 3 3 rfl (by decide) (dk_142_1 (110, .istore_n 3, 1) (List.mem_of_getElem? (i := 24) rfl)),
  List.forall_mem_cons.mpr ⟨sd_iinc 142 111 4 1 (by decide) (dk_142_1 (111, .iinc 4 1, 3) (List.mem_of_getElem? (i := 25) rfl)),
  List.forall_mem_cons.mpr ⟨sd_goto 142 114 (-62) 52 (by decide) (dk_142_1 (114, .goto (-62), 3) (List.mem_of_getElem? (i := 26) rfl)),
  List.forall_mem_cons.mpr ⟨sd_oLdI_n 142 117 3 3 rfl (dk_142_1 (117, .iload_n 3, 1) (List.mem_of_getElem? (i := 27) rfl)),
  List.forall_mem_cons.mpr ⟨sd_iret 142 118 rfl (dk_142_1 (118, .ireturn, 1) (List.mem_of_getElem? (i := 28) rfl)),
  fun _ h => nomatch h⟩⟩⟩⟩⟩⟩⟩⟩⟩⟩⟩⟩⟩⟩⟩⟩⟩⟩⟩⟩⟩⟩⟩⟩⟩⟩⟩⟩⟩
def tb_142 : List (List (Nat × Op1)) := [tb_142_0, tb_142_1]
theorem sm_142 : ∀ t ∈ tb_142, ∀ q ∈ t, SM GwP MdP D A l 142 q.1 q.2 := List.forall_mem_cons.mpr ⟨sm_142_0, List.forall_mem_cons.mpr ⟨sm_142_1, fun _ h => nomatch h⟩⟩
-- 143: MarginaliaModel.wouldHeal(I)I
def dl_143_0 : List (Nat × Instr × Nat) := [(0, .aload_n 0, 1), (1, .iconst 0, 1), (2, .putfield 65, 3), (5, .aload_n 0, 1), (6, .iload_n 1, 1), (7, .invokevirtual 134, 3), (10, .ifCond .eq 16, 3), (13, .aload_n 0, 1), (14, .aload_n 0, 1), (15, .getfield 30, 3), (18, .iload_n 1, 1), (19, .iaload, 1), (20, .invokevirtual 155, 3), (23, .goto 8, 3), (26, .aload_n 0, 1), (27, .iconst 1, 1), (28, .invokevirtual 82, 3), (31, .ireturn, 1)]
theorem dk_143_0 : ∀ q ∈ dl_143_0, decode (mCod (MdP 143)) q.1 = .ok q.2 := by
  rw [show mCod (MdP 143) = cX6_wouldHeal from rfl]
  decide +kernel
def tb_143_0 : List (Nat × Op1) := [(0, oLdR 0 1), (1, oCI 0 1), (2, oPutI 7 0), (5, oLdR 0 1), (6, oLdI 1 1), (7, oCallV 96 1 2 7 []), (10, oZeq 26), (13, oLdR 0 1), (14, oLdR 0 1), (15, oGetR 7 11), (18, oLdI 1 1), (19, oALdI 10), (20, oCallV 119 1 6 7 []), (23, oGoto 31), (26, oLdR 0 1), (27, oCI 1 1), (28, oCallV 91 1 2 7 []), (31, oRetI)]
theorem sm_143_0 : ∀ q ∈ tb_143_0, SM GwP MdP D A l 143 q.1 q.2 :=
  List.forall_mem_cons.mpr ⟨sd_oLdR_n 143 0 0 0 rfl (dk_143_0 (0, .aload_n 0, 1) (List.mem_of_getElem? (i := 0) rfl)),
  List.forall_mem_cons.mpr ⟨sd_iconst 143 1 0 ⟨by decide, by decide⟩ (dk_143_0 (1, .iconst 0, 1) (List.mem_of_getElem? (i := 1) rfl)),
  List.forall_mem_cons.mpr ⟨sd_oPutI 143 2 7 0 65 RX6 TX6 23 rfl ⟨by decide, by decide⟩ rfl (by decide) rfl (fun w h => iw_143 w (uz_6 w h)) rfl tyX6 tyX6_ok nmX6 rfl rfl (iw_143 _ zw353) (dk_143_0 (2, .putfield 65, 3) (List.mem_of_getElem? (i := 2) rfl)),
  List.forall_mem_cons.mpr ⟨sd_oLdR_n 143 5 0 0 rfl (dk_143_0 (5, .aload_n 0, 1) (List.mem_of_getElem? (i := 3) rfl)),
  List.forall_mem_cons.mpr ⟨sd_oLdI_n 143 6 1 1 rfl (dk_143_0 (6, .iload_n 1, 1) (List.mem_of_getElem? (i := 4) rfl)),
  List.forall_mem_cons.mpr ⟨sd_callV 143 7 96 1 2 134 7 [] (gdV hws_143 hws_96 zw402 zw403 zw404 zw358 zw401) hws_96 rfl (by decide +kernel) rfl rfl ⟨by decide +kernel, by decide +kernel, by decide +kernel⟩ ⟨by decide, by decide⟩ (catch_nil rfl) RX6 rfl TX6 23 rfl ⟨by decide, by decide⟩ (dk_143_0 (7, .invokevirtual 134, 3) (List.mem_of_getElem? (i := 5) rfl)),
  List.forall_mem_cons.mpr ⟨sd_if_eq 143 10 16 26 (by decide) (dk_143_0 (10, .ifCond .eq 16, 3) (List.mem_of_getElem? (i := 6) rfl)),
  List.forall_mem_cons.mpr ⟨sd_oLdR_n 143 13 0 0 rfl (dk_143_0 (13, .aload_n 0, 1) (List.mem_of_getElem? (i := 7) rfl)),
  List.forall_mem_cons.mpr ⟨sd_oLdR_n 143 14 0 0 rfl (dk_143_0 (14, .aload_n 0, 1) (List.mem_of_getElem? (i := 8) rfl)),
  List.forall_mem_cons.mpr ⟨sd_oGetR 143 15 7 11 30 RX6 TX6 23 rfl ⟨by decide, by decide⟩ rfl (by decide) rfl (fun w h => iw_143 w (uz_6 w h)) rfl (iw_143 _ zw340) (dk_143_0 (15, .getfield 30, 3) (List.mem_of_getElem? (i := 9) rfl)),
  List.forall_mem_cons.mpr ⟨sd_oLdI_n 143 18 1 1 rfl (dk_143_0 (18, .iload_n 1, 1) (List.mem_of_getElem? (i := 10) rfl)),
  List.forall_mem_cons.mpr ⟨sd_iald 143 19 (dk_143_0 (19, .iaload, 1) (List.mem_of_getElem? (i := 11) rfl)),
  List.forall_mem_cons.mpr ⟨sd_callV 143 20 119 1 6 155 7 [] (gdV hws_143 hws_119 zw429 zw430 zw431 zw358 zw428) hws_119 rfl (by decide +kernel) rfl rfl ⟨by decide +kernel, by decide +kernel, by decide +kernel⟩ ⟨by decide, by decide⟩ (catch_nil rfl) RX6 rfl TX6 23 rfl ⟨by decide, by decide⟩ (dk_143_0 (20, .invokevirtual 155, 3) (List.mem_of_getElem? (i := 12) rfl)),
  List.forall_mem_cons.mpr ⟨sd_goto 143 23 8 31 (by decide) (dk_143_0 (23, .goto 8, 3) (List.mem_of_getElem? (i := 13) rfl)),
  List.forall_mem_cons.mpr ⟨sd_oLdR_n 143 26 0 0 rfl (dk_143_0 (26, .aload_n 0, 1) (List.mem_of_getElem? (i := 14) rfl)),
  List.forall_mem_cons.mpr ⟨sd_iconst 143 27 1 ⟨by decide, by decide⟩ (dk_143_0 (27, .iconst 1, 1) (List.mem_of_getElem? (i := 15) rfl)),
  List.forall_mem_cons.mpr ⟨sd_callV 143 28 91 1 2 82 7 [] (gdV hws_143 hws_91 zw362 zw363 zw364 zw358 zw361) hws_91 rfl (by decide +kernel) rfl rfl ⟨by decide +kernel, by decide +kernel, by decide +kernel⟩ ⟨by decide, by decide⟩ (catch_nil rfl) RX6 rfl TX6 23 rfl ⟨by decide, by decide⟩ (dk_143_0 (28, .invokevirtual 82, 3) (List.mem_of_getElem? (i := 16) rfl)),
  List.forall_mem_cons.mpr ⟨sd_iret 143 31 rfl (dk_143_0 (31, .ireturn, 1) (List.mem_of_getElem? (i := 17) rfl)),
  fun _ h => nomatch h⟩⟩⟩⟩⟩⟩⟩⟩⟩⟩⟩⟩⟩⟩⟩⟩⟩⟩
def tb_143 : List (List (Nat × Op1)) := [tb_143_0]
theorem sm_143 : ∀ t ∈ tb_143, ∀ q ∈ t, SM GwP MdP D A l 143 q.1 q.2 := List.forall_mem_cons.mpr ⟨sm_143_0, fun _ h => nomatch h⟩
-- 144: MarginaliaModel.seen(II)I
def dl_144_0 : List (Nat × Instr × Nat) := [(0, .iconst 0, 1), (1, .istore_n 3, 1), (2, .iconst 0, 1), (3, .istore 4, 2), (5, .iload 4, 2), (7, .aload_n 0, 1), (8, .getfield 76, 3), (11, .if_icmp .ge 44, 3), (14, .iload_n 3, 1), (15, .aload_n 0, 1), (16, .getfield 33, 3), (19, .iload 4, 2), (21, .iaload, 1), (22, .iconst 2, 1), (23, .if_icmp .eq 23, 3), (26, .aload_n 0, 1), (27, .iload_n 1, 1), (28, .iload_n 2, 1), (29, .aload_n 0, 1), (30, .getfield 30, 3), (33, .iload 4, 2), (35, .iaload, 1), (36, .invokevirtual 123, 3), (39, .ifCond .eq 7, 3), (42, .iconst 1, 1), (43, .goto 4, 3), (46, .iconst 0, 1), (47, .iadd, 1), (48, .istore_n 3, 1), (49, .iinc 4 1, 3), (52, .goto (-47), 3), (55, .iload_n 3, 1), (56, .ireturn, 1)]
theorem dk_144_0 : ∀ q ∈ dl_144_0, decode (mCod (MdP 144)) q.1 = .ok q.2 := by
  rw [show mCod (MdP 144) = cX6_seen from rfl]
  decide +kernel
def tb_144_0 : List (Nat × Op1) := [(0, oCI 0 1), (1, oStI 3 1), (2, oCI 0 1), (3, oStI 4 2), (5, oLdI 4 2), (7, oLdR 0 1), (8, oGetI 7 7), (11, oCge 55), (14, oLdI 3 1), (15, oLdR 0 1), (16, oGetR 7 12), (19, oLdI 4 2), (21, oALdI 10), (22, oCI 2 1), (23, oCeq 46), (26, oLdR 0 1), (27, oLdI 1 1), (28, oLdI 2 1), (29, oLdR 0 1), (30, oGetR 7 11), (33, oLdI 4 2), (35, oALdI 10), (36, oCallV 108 3 4 7 []), (39, oZeq 46), (42, oCI 1 1), (43, oGoto 47), (46, oCI 0 1), (47, oAdd), (48, oStI 3 1), (49, oInc 4 1), (52, oGoto 5), (55, oLdI 3 1), (56, oRetI)]
theorem sm_144_0 : ∀ q ∈ tb_144_0, SM GwP MdP D A l 144 q.1 q.2 :=
  List.forall_mem_cons.mpr ⟨sd_iconst 144 0 0 ⟨by decide, by decide⟩ (dk_144_0 (0, .iconst 0, 1) (List.mem_of_getElem? (i := 0) rfl)),
  List.forall_mem_cons.mpr ⟨sd_oStI_n 144 1 3 3 rfl (by decide) (dk_144_0 (1, .istore_n 3, 1) (List.mem_of_getElem? (i := 1) rfl)),
  List.forall_mem_cons.mpr ⟨sd_iconst 144 2 0 ⟨by decide, by decide⟩ (dk_144_0 (2, .iconst 0, 1) (List.mem_of_getElem? (i := 2) rfl)),
  List.forall_mem_cons.mpr ⟨sd_oStI 144 3 4 (by decide) (dk_144_0 (3, .istore 4, 2) (List.mem_of_getElem? (i := 3) rfl)),
  List.forall_mem_cons.mpr ⟨sd_oLdI 144 5 4 (dk_144_0 (5, .iload 4, 2) (List.mem_of_getElem? (i := 4) rfl)),
  List.forall_mem_cons.mpr ⟨sd_oLdR_n 144 7 0 0 rfl (dk_144_0 (7, .aload_n 0, 1) (List.mem_of_getElem? (i := 5) rfl)),
  List.forall_mem_cons.mpr ⟨sd_oGetI 144 8 7 7 76 RX6 TX6 23 rfl ⟨by decide, by decide⟩ rfl (by decide) rfl (fun w h => iw_144 w (uz_6 w h)) rfl (iw_144 _ zw359) (dk_144_0 (8, .getfield 76, 3) (List.mem_of_getElem? (i := 6) rfl)),
  List.forall_mem_cons.mpr ⟨sd_icmp_ge 144 11 44 55 (by decide) (dk_144_0 (11, .if_icmp .ge 44, 3) (List.mem_of_getElem? (i := 7) rfl)),
  List.forall_mem_cons.mpr ⟨sd_oLdI_n 144 14 3 3 rfl (dk_144_0 (14, .iload_n 3, 1) (List.mem_of_getElem? (i := 8) rfl)),
  List.forall_mem_cons.mpr ⟨sd_oLdR_n 144 15 0 0 rfl (dk_144_0 (15, .aload_n 0, 1) (List.mem_of_getElem? (i := 9) rfl)),
  List.forall_mem_cons.mpr ⟨sd_oGetR 144 16 7 12 33 RX6 TX6 23 rfl ⟨by decide, by decide⟩ rfl (by decide) rfl (fun w h => iw_144 w (uz_6 w h)) rfl (iw_144 _ zw341) (dk_144_0 (16, .getfield 33, 3) (List.mem_of_getElem? (i := 10) rfl)),
  List.forall_mem_cons.mpr ⟨sd_oLdI 144 19 4 (dk_144_0 (19, .iload 4, 2) (List.mem_of_getElem? (i := 11) rfl)),
  List.forall_mem_cons.mpr ⟨sd_iald 144 21 (dk_144_0 (21, .iaload, 1) (List.mem_of_getElem? (i := 12) rfl)),
  List.forall_mem_cons.mpr ⟨sd_iconst 144 22 2 ⟨by decide, by decide⟩ (dk_144_0 (22, .iconst 2, 1) (List.mem_of_getElem? (i := 13) rfl)),
  List.forall_mem_cons.mpr ⟨sd_icmp_eq 144 23 23 46 (by decide) (dk_144_0 (23, .if_icmp .eq 23, 3) (List.mem_of_getElem? (i := 14) rfl)),
  List.forall_mem_cons.mpr ⟨sd_oLdR_n 144 26 0 0 rfl (dk_144_0 (26, .aload_n 0, 1) (List.mem_of_getElem? (i := 15) rfl)),
  List.forall_mem_cons.mpr ⟨sd_oLdI_n 144 27 1 1 rfl (dk_144_0 (27, .iload_n 1, 1) (List.mem_of_getElem? (i := 16) rfl)),
  List.forall_mem_cons.mpr ⟨sd_oLdI_n 144 28 2 2 rfl (dk_144_0 (28, .iload_n 2, 1) (List.mem_of_getElem? (i := 17) rfl)),
  List.forall_mem_cons.mpr ⟨sd_oLdR_n 144 29 0 0 rfl (dk_144_0 (29, .aload_n 0, 1) (List.mem_of_getElem? (i := 18) rfl)),
  List.forall_mem_cons.mpr ⟨sd_oGetR 144 30 7 11 30 RX6 TX6 23 rfl ⟨by decide, by decide⟩ rfl (by decide) rfl (fun w h => iw_144 w (uz_6 w h)) rfl (iw_144 _ zw340) (dk_144_0 (30, .getfield 30, 3) (List.mem_of_getElem? (i := 19) rfl)),
  List.forall_mem_cons.mpr ⟨sd_oLdI 144 33 4 (dk_144_0 (33, .iload 4, 2) (List.mem_of_getElem? (i := 20) rfl)),
  List.forall_mem_cons.mpr ⟨sd_iald 144 35 (dk_144_0 (35, .iaload, 1) (List.mem_of_getElem? (i := 21) rfl)),
  List.forall_mem_cons.mpr ⟨sd_callV 144 36 108 3 4 123 7 [] (gdV hws_144 hws_108 zw390 zw391 zw392 zw358 zw389) hws_108 rfl (by decide +kernel) rfl rfl ⟨by decide +kernel, by decide +kernel, by decide +kernel⟩ ⟨by decide, by decide⟩ (catch_nil rfl) RX6 rfl TX6 23 rfl ⟨by decide, by decide⟩ (dk_144_0 (36, .invokevirtual 123, 3) (List.mem_of_getElem? (i := 22) rfl)),
  List.forall_mem_cons.mpr ⟨sd_if_eq 144 39 7 46 (by decide) (dk_144_0 (39, .ifCond .eq 7, 3) (List.mem_of_getElem? (i := 23) rfl)),
  List.forall_mem_cons.mpr ⟨sd_iconst 144 42 1 ⟨by decide, by decide⟩ (dk_144_0 (42, .iconst 1, 1) (List.mem_of_getElem? (i := 24) rfl)),
  List.forall_mem_cons.mpr ⟨sd_goto 144 43 4 47 (by decide) (dk_144_0 (43, .goto 4, 3) (List.mem_of_getElem? (i := 25) rfl)),
  List.forall_mem_cons.mpr ⟨sd_iconst 144 46 0 ⟨by decide, by decide⟩ (dk_144_0 (46, .iconst 0, 1) (List.mem_of_getElem? (i := 26) rfl)),
  List.forall_mem_cons.mpr ⟨sd_iadd 144 47 (dk_144_0 (47, .iadd, 1) (List.mem_of_getElem? (i := 27) rfl)),
  List.forall_mem_cons.mpr ⟨sd_oStI_n 144 48 3 3 rfl (by decide) (dk_144_0 (48, .istore_n 3, 1) (List.mem_of_getElem? (i := 28) rfl)),
  List.forall_mem_cons.mpr ⟨sd_iinc 144 49 4 1 (by decide) (dk_144_0 (49, .iinc 4 1, 3) (List.mem_of_getElem? (i := 29) rfl)),
  List.forall_mem_cons.mpr ⟨sd_goto 144 52 (-47) 5 (by decide) (dk_144_0 (52, .goto (-47), 3) (List.mem_of_getElem? (i := 30) rfl)),
  List.forall_mem_cons.mpr ⟨sd_oLdI_n 144 55 3 3 rfl (dk_144_0 (55, .iload_n 3, 1) (List.mem_of_getElem? (i := 31) rfl)),
  List.forall_mem_cons.mpr ⟨sd_iret 144 56 rfl (dk_144_0 (56, .ireturn, 1) (List.mem_of_getElem? (i := 32) rfl)),
  fun _ h => nomatch h⟩⟩⟩⟩⟩⟩⟩⟩⟩⟩⟩⟩⟩⟩⟩⟩⟩⟩⟩⟩⟩⟩⟩⟩⟩⟩⟩⟩⟩⟩⟩⟩⟩
def tb_144 : List (List (Nat × Op1)) := [tb_144_0]
theorem sm_144 : ∀ t ∈ tb_144, ∀ q ∈ t, SM GwP MdP D A l 144 q.1 q.2 := List.forall_mem_cons.mpr ⟨sm_144_0, fun _ h => nomatch h⟩
-- 145: MarginaliaModel.wouldSee(II)I
def dl_145_0 : List (Nat × Instr × Nat) := [(0, .aload_n 0, 1), (1, .iconst 0, 1), (2, .putfield 65, 3), (5, .aload_n 0, 1), (6, .iload_n 1, 1), (7, .invokevirtual 86, 3), (10, .ifCond .ne 9, 3), (13, .aload_n 0, 1), (14, .iconst 1, 1), (15, .invokevirtual 82, 3), (18, .ireturn, 1), (19, .iload_n 2, 1), (20, .iconst 0, 1), (21, .iconst 4, 1), (22, .invokestatic 72, 3), (25, .ifCond .eq 12, 3), (28, .aload_n 0, 1), (29, .iload_n 1, 1), (30, .iload_n 2, 1), (31, .invokevirtual 189, 3), (34, .goto 8, 3), (37, .aload_n 0, 1), (38, .iconst 2, 1), (39, .invokevirtual 82, 3), (42, .ireturn, 1)]
theorem dk_145_0 : ∀ q ∈ dl_145_0, decode (mCod (MdP 145)) q.1 = .ok q.2 := by
  rw [show mCod (MdP 145) = cX6_wouldSee from rfl]
  decide +kernel
def tb_145_0 : List (Nat × Op1) := [(0, oLdR 0 1), (1, oCI 0 1), (2, oPutI 7 0), (5, oLdR 0 1), (6, oLdI 1 1), (7, oCallV 95 1 2 7 []), (10, oZne 19), (13, oLdR 0 1), (14, oCI 1 1), (15, oCallV 91 1 2 7 []), (18, oRetI), (19, oLdI 2 1), (20, oCI 0 1), (21, oCI 4 1), (22, oCallS 94 3 3 []), (25, oZeq 37), (28, oLdR 0 1), (29, oLdI 1 1), (30, oLdI 2 1), (31, oCallV 144 2 5 7 []), (34, oGoto 42), (37, oLdR 0 1), (38, oCI 2 1), (39, oCallV 91 1 2 7 []), (42, oRetI)]
theorem sm_145_0 : ∀ q ∈ tb_145_0, SM GwP MdP D A l 145 q.1 q.2 :=
  List.forall_mem_cons.mpr ⟨sd_oLdR_n 145 0 0 0 rfl (dk_145_0 (0, .aload_n 0, 1) (List.mem_of_getElem? (i := 0) rfl)),
  List.forall_mem_cons.mpr ⟨sd_iconst 145 1 0 ⟨by decide, by decide⟩ (dk_145_0 (1, .iconst 0, 1) (List.mem_of_getElem? (i := 1) rfl)),
  List.forall_mem_cons.mpr ⟨sd_oPutI 145 2 7 0 65 RX6 TX6 23 rfl ⟨by decide, by decide⟩ rfl (by decide) rfl (fun w h => iw_145 w (uz_6 w h)) rfl tyX6 tyX6_ok nmX6 rfl rfl (iw_145 _ zw353) (dk_145_0 (2, .putfield 65, 3) (List.mem_of_getElem? (i := 2) rfl)),
  List.forall_mem_cons.mpr ⟨sd_oLdR_n 145 5 0 0 rfl (dk_145_0 (5, .aload_n 0, 1) (List.mem_of_getElem? (i := 3) rfl)),
  List.forall_mem_cons.mpr ⟨sd_oLdI_n 145 6 1 1 rfl (dk_145_0 (6, .iload_n 1, 1) (List.mem_of_getElem? (i := 4) rfl)),
  List.forall_mem_cons.mpr ⟨sd_callV 145 7 95 1 2 86 7 [] (gdV hws_145 hws_95 zw366 zw367 zw368 zw358 zw365) hws_95 rfl (by decide +kernel) rfl rfl ⟨by decide +kernel, by decide +kernel, by decide +kernel⟩ ⟨by decide, by decide⟩ (catch_nil rfl) RX6 rfl TX6 23 rfl ⟨by decide, by decide⟩ (dk_145_0 (7, .invokevirtual 86, 3) (List.mem_of_getElem? (i := 5) rfl)),
  List.forall_mem_cons.mpr ⟨sd_if_ne 145 10 9 19 (by decide) (dk_145_0 (10, .ifCond .ne 9, 3) (List.mem_of_getElem? (i := 6) rfl)),
  List.forall_mem_cons.mpr ⟨sd_oLdR_n 145 13 0 0 rfl (dk_145_0 (13, .aload_n 0, 1) (List.mem_of_getElem? (i := 7) rfl)),
  List.forall_mem_cons.mpr ⟨sd_iconst 145 14 1 ⟨by decide, by decide⟩ (dk_145_0 (14, .iconst 1, 1) (List.mem_of_getElem? (i := 8) rfl)),
  List.forall_mem_cons.mpr ⟨sd_callV 145 15 91 1 2 82 7 [] (gdV hws_145 hws_91 zw362 zw363 zw364 zw358 zw361) hws_91 rfl (by decide +kernel) rfl rfl ⟨by decide +kernel, by decide +kernel, by decide +kernel⟩ ⟨by decide, by decide⟩ (catch_nil rfl) RX6 rfl TX6 23 rfl ⟨by decide, by decide⟩ (dk_145_0 (15, .invokevirtual 82, 3) (List.mem_of_getElem? (i := 9) rfl)),
  List.forall_mem_cons.mpr ⟨sd_iret 145 18 rfl (dk_145_0 (18, .ireturn, 1) (List.mem_of_getElem? (i := 10) rfl)),
  List.forall_mem_cons.mpr ⟨sd_oLdI_n 145 19 2 2 rfl (dk_145_0 (19, .iload_n 2, 1) (List.mem_of_getElem? (i := 11) rfl)),
  List.forall_mem_cons.mpr ⟨sd_iconst 145 20 0 ⟨by decide, by decide⟩ (dk_145_0 (20, .iconst 0, 1) (List.mem_of_getElem? (i := 12) rfl)),
  List.forall_mem_cons.mpr ⟨sd_iconst 145 21 4 ⟨by decide, by decide⟩ (dk_145_0 (21, .iconst 4, 1) (List.mem_of_getElem? (i := 13) rfl)),
  List.forall_mem_cons.mpr ⟨sd_callS 145 22 94 3 3 72 [] (gdS hws_145 hws_94 zw356 zw357 zw358 zw355) hws_94 rfl (by decide +kernel) rfl rfl ⟨by decide +kernel, by decide +kernel, by decide +kernel⟩ ⟨by decide, by decide⟩ (catch_nil rfl) (dk_145_0 (22, .invokestatic 72, 3) (List.mem_of_getElem? (i := 14) rfl)),
  List.forall_mem_cons.mpr ⟨sd_if_eq 145 25 12 37 (by decide) (dk_145_0 (25, .ifCond .eq 12, 3) (List.mem_of_getElem? (i := 15) rfl)),
  List.forall_mem_cons.mpr ⟨sd_oLdR_n 145 28 0 0 rfl (dk_145_0 (28, .aload_n 0, 1) (List.mem_of_getElem? (i := 16) rfl)),
  List.forall_mem_cons.mpr ⟨sd_oLdI_n 145 29 1 1 rfl (dk_145_0 (29, .iload_n 1, 1) (List.mem_of_getElem? (i := 17) rfl)),
  List.forall_mem_cons.mpr ⟨sd_oLdI_n 145 30 2 2 rfl (dk_145_0 (30, .iload_n 2, 1) (List.mem_of_getElem? (i := 18) rfl)),
  List.forall_mem_cons.mpr ⟨sd_callV 145 31 144 2 5 189 7 [] (gdV hws_145 hws_144 zw470 zw471 zw472 zw358 zw469) hws_144 rfl (by decide +kernel) rfl rfl ⟨by decide +kernel, by decide +kernel, by decide +kernel⟩ ⟨by decide, by decide⟩ (catch_nil rfl) RX6 rfl TX6 23 rfl ⟨by decide, by decide⟩ (dk_145_0 (31, .invokevirtual 189, 3) (List.mem_of_getElem? (i := 19) rfl)),
  List.forall_mem_cons.mpr ⟨sd_goto 145 34 8 42 (by decide) (dk_145_0 (34, .goto 8, 3) (List.mem_of_getElem? (i := 20) rfl)),
  List.forall_mem_cons.mpr ⟨sd_oLdR_n 145 37 0 0 rfl (dk_145_0 (37, .aload_n 0, 1) (List.mem_of_getElem? (i := 21) rfl)),
  List.forall_mem_cons.mpr ⟨sd_iconst 145 38 2 ⟨by decide, by decide⟩ (dk_145_0 (38, .iconst 2, 1) (List.mem_of_getElem? (i := 22) rfl)),
  List.forall_mem_cons.mpr ⟨sd_callV 145 39 91 1 2 82 7 [] (gdV hws_145 hws_91 zw362 zw363 zw364 zw358 zw361) hws_91 rfl (by decide +kernel) rfl rfl ⟨by decide +kernel, by decide +kernel, by decide +kernel⟩ ⟨by decide, by decide⟩ (catch_nil rfl) RX6 rfl TX6 23 rfl ⟨by decide, by decide⟩ (dk_145_0 (39, .invokevirtual 82, 3) (List.mem_of_getElem? (i := 23) rfl)),
  List.forall_mem_cons.mpr ⟨sd_iret 145 42 rfl (dk_145_0 (42, .ireturn, 1) (List.mem_of_getElem? (i := 24) rfl)),
  fun _ h => nomatch h⟩⟩⟩⟩⟩⟩⟩⟩⟩⟩⟩⟩⟩⟩⟩⟩⟩⟩⟩⟩⟩⟩⟩⟩⟩
def tb_145 : List (List (Nat × Op1)) := [tb_145_0]
theorem sm_145 : ∀ t ∈ tb_145, ∀ q ∈ t, SM GwP MdP D A l 145 q.1 q.2 := List.forall_mem_cons.mpr ⟨sm_145_0, fun _ h => nomatch h⟩
-- 146: MarginaliaModel.digest()J
def dl_146_0 : List (Nat × Instr × Nat) := [(0, .aload_n 0, 1), (1, .iconst 0, 1), (2, .putfield 65, 3), (5, .ldc2_w 192, 3), (8, .lstore_n 1, 1), (9, .iconst 0, 1), (10, .istore_n 3, 1), (11, .iload_n 3, 1), (12, .iconst 5, 1), (13, .if_icmp .ge 22, 3), (16, .lload_n 1, 1), (17, .ldc2_w 194, 3), (20, .lmul, 1), (21, .aload_n 0, 1), (22, .iload_n 3, 1), (23, .invokevirtual 158, 3), (26, .i2l, 1), (27, .ladd, 1), (28, .lstore_n 1, 1), (29, .iinc 3 1, 3), (32, .goto (-21), 3), (35, .lload_n 1, 1), (36, .ldc2_w 194, 3), (39, .lmul, 1), (40, .aload_n 0, 1), (41, .invokevirtual 90, 3), (44, .arraylength, 1), (45, .i2l, 1), (46, .ladd, 1), (47, .ldc2_w 194, 3), (50, .lmul, 1), (51, .aload_n 0, 1), (52, .getfield 79, 3), (55, .i2l, 1), (56, .ladd, 1), (57, .lstore_n 1, 1), (58, .aload_n 0, 1), (59, .invokevirtual 90, 3), (62, .astore_n 3, 1), (63, .aload_n 3, 1)]
theorem dk_146_0 : ∀ q ∈ dl_146_0, decode (mCod (MdP 146)) q.1 = .ok q.2 := by
  rw [show mCod (MdP 146) = cX6_digest from rfl]
  decide +kernel
def dl_146_1 : List (Nat × Instr × Nat) := [(64, .arraylength, 1), (65, .istore 4, 2), (67, .iconst 0, 1), (68, .istore 5, 2), (70, .iload 5, 2), (72, .iload 4, 2), (74, .if_icmp .ge 30, 3), (77, .aload_n 3, 1), (78, .iload 5, 2), (80, .iaload, 1), (81, .istore 6, 2), (83, .lload_n 1, 1), (84, .ldc2_w 194, 3), (87, .lmul, 1), (88, .aload_n 0, 1), (89, .getfield 13, 3), (92, .iload 6, 2), (94, .iaload, 1), (95, .i2l, 1), (96, .ladd, 1), (97, .lstore_n 1, 1), (98, .iinc 5 1, 3), (101, .goto (-31), 3), (104, .iconst 0, 1), (105, .istore_n 3, 1), (106, .iload_n 3, 1), (107, .aload_n 0, 1), (108, .getfield 69, 3), (111, .if_icmp .ge 59, 3), (114, .lload_n 1, 1), (115, .ldc2_w 194, 3), (118, .lmul, 1), (119, .aload_n 0, 1), (120, .getfield 9, 3), (123, .iload_n 3, 1), (124, .iaload, 1), (125, .i2l, 1), (126, .ladd, 1), (127, .ldc2_w 194, 3), (130, .lmul, 1)]
theorem dk_146_1 : ∀ q ∈ dl_146_1, decode (mCod (MdP 146)) q.1 = .ok q.2 := by
  rw [show mCod (MdP 146) = cX6_digest from rfl]
  decide +kernel
def dl_146_2 : List (Nat × Instr × Nat) := [(131, .aload_n 0, 1), (132, .iload_n 3, 1), (133, .iconst 1, 1), (134, .invokevirtual 189, 3), (137, .i2l, 1), (138, .ladd, 1), (139, .ldc2_w 194, 3), (142, .lmul, 1), (143, .aload_n 0, 1), (144, .iload_n 3, 1), (145, .iconst 0, 1), (146, .invokevirtual 183, 3), (149, .i2l, 1), (150, .ladd, 1), (151, .ldc2_w 194, 3), (154, .lmul, 1), (155, .aload_n 0, 1), (156, .iload_n 3, 1), (157, .iconst 5, 1), (158, .invokevirtual 183, 3), (161, .i2l, 1), (162, .ladd, 1), (163, .lstore_n 1, 1), (164, .iinc 3 1, 3), (167, .goto (-61), 3), (170, .iconst 0, 1), (171, .istore_n 3, 1), (172, .iload_n 3, 1), (173, .aload_n 0, 1), (174, .getfield 76, 3), (177, .if_icmp .ge 121, 3), (180, .aload_n 0, 1), (181, .getfield 33, 3), (184, .iload_n 3, 1), (185, .iaload, 1), (186, .iconst 2, 1), (187, .if_icmp .ne 6, 3), (190, .goto 102, 3), (193, .lload_n 1, 1), (194, .ldc2_w 194, 3)]
theorem dk_146_2 : ∀ q ∈ dl_146_2, decode (mCod (MdP 146)) q.1 = .ok q.2 := by
  rw [show mCod (MdP 146) = cX6_digest from rfl]
  decide +kernel
def dl_146_3 : List (Nat × Instr × Nat) := [(197, .lmul, 1), (198, .iload_n 3, 1), (199, .i2l, 1), (200, .ladd, 1), (201, .lstore_n 1, 1), (202, .iconst 0, 1), (203, .istore 4, 2), (205, .iload 4, 2), (207, .bipush 11, 2), (209, .if_icmp .ge 24, 3), (212, .lload_n 1, 1), (213, .ldc2_w 194, 3), (216, .lmul, 1), (217, .aload_n 0, 1), (218, .iload_n 3, 1), (219, .iload 4, 2), (221, .invokevirtual 167, 3), (224, .i2l, 1), (225, .ladd, 1), (226, .lstore_n 1, 1), (227, .iinc 4 1, 3), (230, .goto (-25), 3), (233, .lload_n 1, 1), (234, .ldc2_w 194, 3), (237, .lmul, 1), (238, .aload_n 0, 1), (239, .aload_n 0, 1), (240, .getfield 30, 3), (243, .iload_n 3, 1), (244, .iaload, 1), (245, .invokevirtual 155, 3), (248, .i2l, 1), (249, .ladd, 1), (250, .lstore_n 1, 1), (251, .iconst 0, 1), (252, .istore 4, 2), (254, .iload 4, 2), (256, .aload_n 0, 1), (257, .getfield 69, 3), (260, .if_icmp .ge 32, 3)]
theorem dk_146_3 : ∀ q ∈ dl_146_3, decode (mCod (MdP 146)) q.1 = .ok q.2 := by
  rw [show mCod (MdP 146) = cX6_digest from rfl]
  decide +kernel
def dl_146_4 : List (Nat × Instr × Nat) := [(263, .lload_n 1, 1), (264, .ldc2_w 194, 3), (267, .lmul, 1), (268, .aload_n 0, 1), (269, .iload 4, 2), (271, .iload_n 3, 1), (272, .invokevirtual 126, 3), (275, .ifCond .eq 7, 3), (278, .iconst 1, 1), (279, .goto 4, 3), (282, .iconst 0, 1), (283, .i2l, 1), (284, .ladd, 1), (285, .lstore_n 1, 1), (286, .iinc 4 1, 3), (289, .goto (-35), 3), (292, .iinc 3 1, 3), (295, .goto (-123), 3), (298, .aload_n 0, 1), (299, .getfield 59, 3), (302, .astore_n 3, 1), (303, .aload_n 3, 1), (304, .arraylength, 1), (305, .istore 4, 2), (307, .iconst 0, 1), (308, .istore 5, 2), (310, .iload 5, 2), (312, .iload 4, 2), (314, .if_icmp .ge 25, 3), (317, .aload_n 3, 1), (318, .iload 5, 2), (320, .iaload, 1), (321, .istore 6, 2), (323, .lload_n 1, 1), (324, .ldc2_w 194, 3), (327, .lmul, 1), (328, .iload 6, 2), (330, .i2l, 1), (331, .ladd, 1), (332, .lstore_n 1, 1)]
theorem dk_146_4 : ∀ q ∈ dl_146_4, decode (mCod (MdP 146)) q.1 = .ok q.2 := by
  rw [show mCod (MdP 146) = cX6_digest from rfl]
  decide +kernel
def dl_146_5 : List (Nat × Instr × Nat) := [(333, .iinc 5 1, 3), (336, .goto (-26), 3), (339, .lload_n 1, 1), (340, .lreturn, 1)]
theorem dk_146_5 : ∀ q ∈ dl_146_5, decode (mCod (MdP 146)) q.1 = .ok q.2 := by
  rw [show mCod (MdP 146) = cX6_digest from rfl]
  decide +kernel
def tb_146_0 : List (Nat × Op1) := [(0, oLdR 0 1), (1, oCI 0 1), (2, oPutI 7 0), (5, oCL 58083 3), (8, oStL 1 1), (9, oCI 0 1), (10, oStI 3 1), (11, oLdI 3 1), (12, oCI 5 1), (13, oCge 35), (16, oLdL 1 1), (17, oCL 31 3), (20, oLMul), (21, oLdR 0 1), (22, oLdI 3 1), (23, oCallV 123 1 5 7 []), (26, oI2L), (27, oLAdd), (28, oStL 1 1), (29, oInc 3 1), (32, oGoto 11), (35, oLdL 1 1), (36, oCL 31 3), (39, oLMul), (40, oLdR 0 1), (41, oCallV 97 0 1 7 []), (44, oALen 10), (45, oI2L), (46, oLAdd), (47, oCL 31 3), (50, oLMul), (51, oLdR 0 1), (52, oGetI 7 6), (55, oI2L), (56, oLAdd), (57, oStL 1 1), (58, oLdR 0 1), (59, oCallV 97 0 1 7 []), (62, oStR 3 1), (63, oLdR 3 1)]
theorem sm_146_0 : ∀ q ∈ tb_146_0, SM GwP MdP D A l 146 q.1 q.2 :=
  List.forall_mem_cons.mpr ⟨sd_oLdR_n 146 0 0 0 rfl (dk_146_0 (0, .aload_n 0, 1) (List.mem_of_getElem? (i := 0) rfl)),
  List.forall_mem_cons.mpr ⟨sd_iconst 146 1 0 ⟨by decide, by decide⟩ (dk_146_0 (1, .iconst 0, 1) (List.mem_of_getElem? (i := 1) rfl)),
  List.forall_mem_cons.mpr ⟨sd_oPutI 146 2 7 0 65 RX6 TX6 23 rfl ⟨by decide, by decide⟩ rfl (by decide) rfl (fun w h => iw_146 w (uz_6 w h)) rfl tyX6 tyX6_ok nmX6 rfl rfl (iw_146 _ zw353) (dk_146_0 (2, .putfield 65, 3) (List.mem_of_getElem? (i := 2) rfl)),
  List.forall_mem_cons.mpr ⟨sd_ldc2 146 5 192 58083 (iw_146 _ zw473) (dk_146_0 (5, .ldc2_w 192, 3) (List.mem_of_getElem? (i := 3) rfl)),
  List.forall_mem_cons.mpr ⟨sd_oStL_n 146 8 1 1 rfl (by decide) (dk_146_0 (8, .lstore_n 1, 1) (List.mem_of_getElem? (i := 4) rfl)),
  List.forall_mem_cons.mpr ⟨sd_iconst 146 9 0 ⟨by decide, by decide⟩ (dk_146_0 (9, .iconst 0, 1) (List.mem_of_getElem? (i := 5) rfl)),
  List.forall_mem_cons.mpr ⟨sd_oStI_n 146 10 3 3 rfl (by decide) (dk_146_0 (10, .istore_n 3, 1) (List.mem_of_getElem? (i := 6) rfl)),
  List.forall_mem_cons.mpr ⟨sd_oLdI_n 146 11 3 3 rfl (dk_146_0 (11, .iload_n 3, 1) (List.mem_of_getElem? (i := 7) rfl)),
  List.forall_mem_cons.mpr ⟨sd_iconst 146 12 5 ⟨by decide, by decide⟩ (dk_146_0 (12, .iconst 5, 1) (List.mem_of_getElem? (i := 8) rfl)),
  List.forall_mem_cons.mpr ⟨sd_icmp_ge 146 13 22 35 (by decide) (dk_146_0 (13, .if_icmp .ge 22, 3) (List.mem_of_getElem? (i := 9) rfl)),
  List.forall_mem_cons.mpr ⟨sd_oLdL_n 146 16 1 1 rfl (dk_146_0 (16, .lload_n 1, 1) (List.mem_of_getElem? (i := 10) rfl)),
  List.forall_mem_cons.mpr ⟨sd_ldc2 146 17 194 31 (iw_146 _ zw474) (dk_146_0 (17, .ldc2_w 194, 3) (List.mem_of_getElem? (i := 11) rfl)),
  List.forall_mem_cons.mpr ⟨sd_lmul 146 20 (dk_146_0 (20, .lmul, 1) (List.mem_of_getElem? (i := 12) rfl)),
  List.forall_mem_cons.mpr ⟨sd_oLdR_n 146 21 0 0 rfl (dk_146_0 (21, .aload_n 0, 1) (List.mem_of_getElem? (i := 13) rfl)),
  List.forall_mem_cons.mpr ⟨sd_oLdI_n 146 22 3 3 rfl (dk_146_0 (22, .iload_n 3, 1) (List.mem_of_getElem? (i := 14) rfl)),
  List.forall_mem_cons.mpr ⟨sd_callV 146 23 123 1 5 158 7 [] (gdV hws_146 hws_123 zw433 zw434 zw435 zw358 zw432) hws_123 rfl (by decide +kernel) rfl rfl ⟨by decide +kernel, by decide +kernel, by decide +kernel⟩ ⟨by decide, by decide⟩ (catch_nil rfl) RX6 rfl TX6 23 rfl ⟨by decide, by decide⟩ (dk_146_0 (23, .invokevirtual 158, 3) (List.mem_of_getElem? (i := 15) rfl)),
  List.forall_mem_cons.mpr ⟨sd_i2l 146 26 (dk_146_0 (26, .i2l, 1) (List.mem_of_getElem? (i := 16) rfl)),
  List.forall_mem_cons.mpr ⟨sd_ladd 146 27 (dk_146_0 (27, .ladd, 1) (List.mem_of_getElem? (i := 17) rfl)),
  List.forall_mem_cons.mpr ⟨sd_oStL_n 146 28 1 1 rfl (by decide) (dk_146_0 (28, .lstore_n 1, 1) (List.mem_of_getElem? (i := 18) rfl)),
  List.forall_mem_cons.mpr ⟨sd_iinc 146 29 3 1 (by decide) (dk_146_0 (29, .iinc 3 1, 3) (List.mem_of_getElem? (i := 19) rfl)),
  List.forall_mem_cons.mpr ⟨sd_goto 146 32 (-21) 11 (by decide) (dk_146_0 (32, .goto (-21), 3) (List.mem_of_getElem? (i := 20) rfl)),
  List.forall_mem_cons.mpr ⟨sd_oLdL_n 146 35 1 1 rfl (dk_146_0 (35, .lload_n 1, 1) (List.mem_of_getElem? (i := 21) rfl)),
  List.forall_mem_cons.mpr ⟨sd_ldc2 146 36 194 31 (iw_146 _ zw474) (dk_146_0 (36, .ldc2_w 194, 3) (List.mem_of_getElem? (i := 22) rfl)),
  List.forall_mem_cons.mpr ⟨sd_lmul 146 39 (dk_146_0 (39, .lmul, 1) (List.mem_of_getElem? (i := 23) rfl)),
  List.forall_mem_cons.mpr ⟨sd_oLdR_n 146 40 0 0 rfl (dk_146_0 (40, .aload_n 0, 1) (List.mem_of_getElem? (i := 24) rfl)),
  List.forall_mem_cons.mpr ⟨sd_callV 146 41 97 0 1 90 7 [] (gdV hws_146 hws_97 zw370 zw371 zw372 zw358 zw369) hws_97 rfl (by decide +kernel) rfl rfl ⟨by decide +kernel, by decide +kernel, by decide +kernel⟩ ⟨by decide, by decide⟩ (catch_nil rfl) RX6 rfl TX6 23 rfl ⟨by decide, by decide⟩ (dk_146_0 (41, .invokevirtual 90, 3) (List.mem_of_getElem? (i := 25) rfl)),
  List.forall_mem_cons.mpr ⟨sd_alen 146 44 10 ⟨by decide, by decide⟩ (dk_146_0 (44, .arraylength, 1) (List.mem_of_getElem? (i := 26) rfl)),
  List.forall_mem_cons.mpr ⟨sd_i2l 146 45 (dk_146_0 (45, .i2l, 1) (List.mem_of_getElem? (i := 27) rfl)),
  List.forall_mem_cons.mpr ⟨sd_ladd 146 46 (dk_146_0 (46, .ladd, 1) (List.mem_of_getElem? (i := 28) rfl)),
  List.forall_mem_cons.mpr ⟨sd_ldc2 146 47 194 31 (iw_146 _ zw474) (dk_146_0 (47, .ldc2_w 194, 3) (List.mem_of_getElem? (i := 29) rfl)),
  List.forall_mem_cons.mpr ⟨sd_lmul 146 50 (dk_146_0 (50, .lmul, 1) (List.mem_of_getElem? (i := 30) rfl)),
  List.forall_mem_cons.mpr ⟨sd_oLdR_n 146 51 0 0 rfl (dk_146_0 (51, .aload_n 0, 1) (List.mem_of_getElem? (i := 31) rfl)),
  List.forall_mem_cons.mpr ⟨sd_oGetI 146 52 7 6 79 RX6 TX6 23 rfl ⟨by decide, by decide⟩ rfl (by decide) rfl (fun w h => iw_146 w (uz_6 w h)) rfl (iw_146 _ zw360) (dk_146_0 (52, .getfield 79, 3) (List.mem_of_getElem? (i := 32) rfl)),
  List.forall_mem_cons.mpr ⟨sd_i2l 146 55 (dk_146_0 (55, .i2l, 1) (List.mem_of_getElem? (i := 33) rfl)),
  List.forall_mem_cons.mpr ⟨sd_ladd 146 56 (dk_146_0 (56, .ladd, 1) (List.mem_of_getElem? (i := 34) rfl)),
  List.forall_mem_cons.mpr ⟨sd_oStL_n 146 57 1 1 rfl (by decide) (dk_146_0 (57, .lstore_n 1, 1) (List.mem_of_getElem? (i := 35) rfl)),
  List.forall_mem_cons.mpr ⟨sd_oLdR_n 146 58 0 0 rfl (dk_146_0 (58, .aload_n 0, 1) (List.mem_of_getElem? (i := 36) rfl)),
  List.forall_mem_cons.mpr ⟨sd_callV 146 59 97 0 1 90 7 [] (gdV hws_146 hws_97 zw370 zw371 zw372 zw358 zw369) hws_97 rfl (by decide +kernel) rfl rfl ⟨by decide +kernel, by decide +kernel, by decide +kernel⟩ ⟨by decide, by decide⟩ (catch_nil rfl) RX6 rfl TX6 23 rfl ⟨by decide, by decide⟩ (dk_146_0 (59, .invokevirtual 90, 3) (List.mem_of_getElem? (i := 37) rfl)),
  List.forall_mem_cons.mpr ⟨sd_oStR_n 146 62 3 3 rfl (by decide) (dk_146_0 (62, .astore_n 3, 1) (List.mem_of_getElem? (i := 38) rfl)),
  List.forall_mem_cons.mpr ⟨sd_oLdR_n 146 63 3 3 rfl (dk_146_0 (63, .aload_n 3, 1) (List.mem_of_getElem? (i := 39) rfl)),
  fun _ h => nomatch h⟩⟩⟩⟩⟩⟩⟩⟩⟩⟩⟩⟩⟩⟩⟩⟩⟩⟩⟩⟩⟩⟩⟩⟩⟩⟩⟩⟩⟩⟩⟩⟩⟩⟩⟩⟩⟩⟩⟩⟩
def tb_146_1 : List (Nat × Op1) := [(64, oALen 10), (65, oStI 4 2), (67, oCI 0 1), (68, oStI 5 2), (70, oLdI 5 2), (72, oLdI 4 2), (74, oCge 104), (77, oLdR 3 1), (78, oLdI 5 2), (80, oALdI 10), (81, oStI 6 2), (83, oLdL 1 1), (84, oCL 31 3), (87, oLMul), (88, oLdR 0 1), (89, oGetR 7 4), (92, oLdI 6 2), (94, oALdI 10), (95, oI2L), (96, oLAdd), (97, oStL 1 1), (98, oInc 5 1), (101, oGoto 70), (104, oCI 0 1), (105, oStI 3 1), (106, oLdI 3 1), (107, oLdR 0 1), (108, oGetI 7 1), (111, oCge 170), (114, oLdL 1 1), (115, oCL 31 3), (118, oLMul), (119, oLdR 0 1), (120, oGetR 7 2), (123, oLdI 3 1), (124, oALdI 10), (125, oI2L), (126, oLAdd), (127, oCL 31 3)]
theorem sm_146_1 : ∀ q ∈ tb_146_1, SM GwP MdP D A l 146 q.1 q.2 :=
  List.forall_mem_cons.mpr ⟨sd_alen 146 64 10 ⟨by decide, by decide⟩ (dk_146_1 (64, .arraylength, 1) (List.mem_of_getElem? (i := 0) rfl)),
  List.forall_mem_cons.mpr ⟨sd_oStI 146 65 4 (by decide) (dk_146_1 (65, .istore 4, 2) (List.mem_of_getElem? (i := 1) rfl)),
  List.forall_mem_cons.mpr ⟨sd_iconst 146 67 0 ⟨by decide, by decide⟩ (dk_146_1 (67, .iconst 0, 1) (List.mem_of_getElem? (i := 2) rfl)),
  List.forall_mem_cons.mpr ⟨sd_oStI 146 68 5 (by decide) (dk_146_1 (68, .istore 5, 2) (List.mem_of_getElem? (i := 3) rfl)),
  List.forall_mem_cons.mpr ⟨sd_oLdI 146 70 5 (dk_146_1 (70, .iload 5, 2) (List.mem_of_getElem? (i := 4) rfl)),
  List.forall_mem_cons.mpr ⟨sd_oLdI 146 72 4 (dk_146_1 (72, .iload 4, 2) (List.mem_of_getElem? (i := 5) rfl)),
  List.forall_mem_cons.mpr ⟨sd_icmp_ge 146 74 30 104 (by decide) (dk_146_1 (74, .if_icmp .ge 30, 3) (List.mem_of_getElem? (i := 6) rfl)),
  List.forall_mem_cons.mpr ⟨sd_oLdR_n 146 77 3 3 rfl (dk_146_1 (77, .aload_n 3, 1) (List.mem_of_getElem? (i := 7) rfl)),
  List.forall_mem_cons.mpr ⟨sd_oLdI 146 78 5 (dk_146_1 (78, .iload 5, 2) (List.mem_of_getElem? (i := 8) rfl)),
  List.forall_mem_cons.mpr ⟨sd_iald 146 80 (dk_146_1 (80, .iaload, 1) (List.mem_of_getElem? (i := 9) rfl)),
  List.forall_mem_cons.mpr ⟨sd_oStI 146 81 6 (by decide) (dk_146_1 (81, .istore 6, 2) (List.mem_of_getElem? (i := 10) rfl)),
  List.forall_mem_cons.mpr ⟨sd_oLdL_n 146 83 1 1 rfl (dk_146_1 (83, .lload_n 1, 1) (List.mem_of_getElem? (i := 11) rfl)),
  List.forall_mem_cons.mpr ⟨sd_ldc2 146 84 194 31 (iw_146 _ zw474) (dk_146_1 (84, .ldc2_w 194, 3) (List.mem_of_getElem? (i := 12) rfl)),
  List.forall_mem_cons.mpr ⟨sd_lmul 146 87 (dk_146_1 (87, .lmul, 1) (List.mem_of_getElem? (i := 13) rfl)),
  List.forall_mem_cons.mpr ⟨sd_oLdR_n 146 88 0 0 rfl (dk_146_1 (88, .aload_n 0, 1) (List.mem_of_getElem? (i := 14) rfl)),
  List.forall_mem_cons.mpr ⟨sd_oGetR 146 89 7 4 13 RX6 TX6 23 rfl ⟨by decide, by decide⟩ rfl (by decide) rfl (fun w h => iw_146 w (uz_6 w h)) rfl (iw_146 _ zw334) (dk_146_1 (89, .getfield 13, 3) (List.mem_of_getElem? (i := 15) rfl)),
  List.forall_mem_cons.mpr ⟨sd_oLdI 146 92 6 (dk_146_1 (92, .iload 6, 2) (List.mem_of_getElem? (i := 16) rfl)),
  List.forall_mem_cons.mpr ⟨sd_iald 146 94 (dk_146_1 (94, .iaload, 1) (List.mem_of_getElem? (i := 17) rfl)),
  List.forall_mem_cons.mpr ⟨sd_i2l 146 95 (dk_146_1 (95, .i2l, 1) (List.mem_of_getElem? (i := 18) rfl)),
  List.forall_mem_cons.mpr ⟨sd_ladd 146 96 (dk_146_1 (96, .ladd, 1) (List.mem_of_getElem? (i := 19) rfl)),
  List.forall_mem_cons.mpr ⟨sd_oStL_n 146 97 1 1 rfl (by decide) (dk_146_1 (97, .lstore_n 1, 1) (List.mem_of_getElem? (i := 20) rfl)),
  List.forall_mem_cons.mpr ⟨sd_iinc 146 98 5 1 (by decide) (dk_146_1 (98, .iinc 5 1, 3) (List.mem_of_getElem? (i := 21) rfl)),
  List.forall_mem_cons.mpr ⟨sd_goto 146 101 (-31) 70 (by decide) (dk_146_1 (101, .goto (-31), 3) (List.mem_of_getElem? (i := 22) rfl)),
  List.forall_mem_cons.mpr ⟨sd_iconst 146 104 0 ⟨by decide, by decide⟩ (dk_146_1 (104, .iconst 0, 1) (List.mem_of_getElem? (i := 23) rfl)),
  List.forall_mem_cons.mpr ⟨sd_oStI_n 146 105 3 3 rfl (by decide) (dk_146_1 (105, .istore_n 3, 1) (List.mem_of_getElem? (i := 24) rfl)),
  List.forall_mem_cons.mpr ⟨sd_oLdI_n 146 106 3 3 rfl (dk_146_1 (106, .iload_n 3, 1) (List.mem_of_getElem? (i := 25) rfl)),
  List.forall_mem_cons.mpr ⟨sd_oLdR_n 146 107 0 0 rfl (dk_146_1 (107, .aload_n 0, 1) (List.mem_of_getElem? (i := 26) rfl)),
  List.forall_mem_cons.mpr ⟨sd_oGetI 146 108 7 1 69 RX6 TX6 23 rfl ⟨by decide, by decide⟩ rfl (by decide) rfl (fun w h => iw_146 w (uz_6 w h)) rfl (iw_146 _ zw354) (dk_146_1 (108, .getfield 69, 3) (List.mem_of_getElem? (i := 27) rfl)),
  List.forall_mem_cons.mpr ⟨sd_icmp_ge 146 111 59 170 (by decide) (dk_146_1 (111, .if_icmp .ge 59, 3) (List.mem_of_getElem? (i := 28) rfl)),
  List.forall_mem_cons.mpr ⟨sd_oLdL_n 146 114 1 1 rfl (dk_146_1 (114, .lload_n 1, 1) (List.mem_of_getElem? (i := 29) rfl)),
  List.forall_mem_cons.mpr ⟨sd_ldc2 146 115 194 31 (iw_146 _ zw474) (dk_146_1 (115, .ldc2_w 194, 3) (List.mem_of_getElem? (i := 30) rfl)),
  List.forall_mem_cons.mpr ⟨sd_lmul 146 118 (dk_146_1 (118, .lmul, 1) (List.mem_of_getElem? (i := 31) rfl)),
  List.forall_mem_cons.mpr ⟨sd_oLdR_n 146 119 0 0 rfl (dk_146_1 (119, .aload_n 0, 1) (List.mem_of_getElem? (i := 32) rfl)),
  List.forall_mem_cons.mpr ⟨sd_oGetR 146 120 7 2 9 RX6 TX6 23 rfl ⟨by decide, by decide⟩ rfl (by decide) rfl (fun w h => iw_146 w (uz_6 w h)) rfl (iw_146 _ zw333) (dk_146_1 (120, .getfield 9, 3) (List.mem_of_getElem? (i := 33) rfl)),
  List.forall_mem_cons.mpr ⟨sd_oLdI_n 146 123 3 3 rfl (dk_146_1 (123, .iload_n 3, 1) (List.mem_of_getElem? (i := 34) rfl)),
  List.forall_mem_cons.mpr ⟨sd_iald 146 124 (dk_146_1 (124, .iaload, 1) (List.mem_of_getElem? (i := 35) rfl)),
  List.forall_mem_cons.mpr ⟨sd_i2l 146 125 (dk_146_1 (125, .i2l, 1) (List.mem_of_getElem? (i := 36) rfl)),
  List.forall_mem_cons.mpr ⟨sd_ladd 146 126 (dk_146_1 (126, .ladd, 1) (List.mem_of_getElem? (i := 37) rfl)),
  List.forall_mem_cons.mpr ⟨sd_ldc2 146 127 194 31 (iw_146 _ zw474) (dk_146_1 (127, .ldc2_w 194, 3) (List.mem_of_getElem? (i := 38) rfl)),
  fun _ h => nomatch h⟩⟩⟩⟩⟩⟩⟩⟩⟩⟩⟩⟩⟩⟩⟩⟩⟩⟩⟩⟩⟩⟩⟩⟩⟩⟩⟩⟩⟩⟩⟩⟩⟩⟩⟩⟩⟩⟩⟩
def tb_146_2 : List (Nat × Op1) := [(130, oLMul), (131, oLdR 0 1), (132, oLdI 3 1), (133, oCI 1 1), (134, oCallV 144 2 5 7 []), (137, oI2L), (138, oLAdd), (139, oCL 31 3), (142, oLMul), (143, oLdR 0 1), (144, oLdI 3 1), (145, oCI 0 1), (146, oCallV 136 2 5 7 []), (149, oI2L), (150, oLAdd), (151, oCL 31 3), (154, oLMul), (155, oLdR 0 1), (156, oLdI 3 1), (157, oCI 5 1), (158, oCallV 136 2 5 7 []), (161, oI2L), (162, oLAdd), (163, oStL 1 1), (164, oInc 3 1), (167, oGoto 106), (170, oCI 0 1), (171, oStI 3 1), (172, oLdI 3 1), (173, oLdR 0 1), (174, oGetI 7 7), (177, oCge 298), (180, oLdR 0 1), (181, oGetR 7 12), (184, oLdI 3 1), (185, oALdI 10), (186, oCI 2 1), (187, oCne 193), (190, oGoto 292)]
theorem sm_146_2 : ∀ q ∈ tb_146_2, SM GwP MdP D A l 146 q.1 q.2 :=
  List.forall_mem_cons.mpr ⟨sd_lmul 146 130 (dk_146_1 (130, .lmul, 1) (List.mem_of_getElem? (i := 39) rfl)),
  List.forall_mem_cons.mpr ⟨sd_oLdR_n 146 131 0 0 rfl (dk_146_2 (131, .aload_n 0, 1) (List.mem_of_getElem? (i := 0) rfl)),
  List.forall_mem_cons.mpr ⟨sd_oLdI_n 146 132 3 3 rfl (dk_146_2 (132, .iload_n 3, 1) (List.mem_of_getElem? (i := 1) rfl)),
  List.forall_mem_cons.mpr ⟨sd_iconst 146 133 1 ⟨by decide, by decide⟩ (dk_146_2 (133, .iconst 1, 1) (List.mem_of_getElem? (i := 2) rfl)),
  List.forall_mem_cons.mpr ⟨sd_callV 146 134 144 2 5 189 7 [] (gdV hws_146 hws_144 zw470 zw471 zw472 zw358 zw469) hws_144 rfl (by decide +kernel) rfl rfl ⟨by decide +kernel, by decide +kernel, by decide +kernel⟩ ⟨by decide, by decide⟩ (catch_nil rfl) RX6 rfl TX6 23 rfl ⟨by decide, by decide⟩ (dk_146_2 (134, .invokevirtual 189, 3) (List.mem_of_getElem? (i := 3) rfl)),
  List.forall_mem_cons.mpr ⟨sd_i2l 146 137 (dk_146_2 (137, .i2l, 1) (List.mem_of_getElem? (i := 4) rfl)),
  List.forall_mem_cons.mpr ⟨sd_ladd 146 138 (dk_146_2 (138, .ladd, 1) (List.mem_of_getElem? (i := 5) rfl)),
  List.forall_mem_cons.mpr ⟨sd_ldc2 146 139 194 31 (iw_146 _ zw474) (dk_146_2 (139, .ldc2_w 194, 3) (List.mem_of_getElem? (i := 6) rfl)),
  List.forall_mem_cons.mpr ⟨sd_lmul 146 142 (dk_146_2 (142, .lmul, 1) (List.mem_of_getElem? (i := 7) rfl)),
  List.forall_mem_cons.mpr ⟨sd_oLdR_n 146 143 0 0 rfl (dk_146_2 (143, .aload_n 0, 1) (List.mem_of_getElem? (i := 8) rfl)),
  List.forall_mem_cons.mpr ⟨sd_oLdI_n 146 144 3 3 rfl (dk_146_2 (144, .iload_n 3, 1) (List.mem_of_getElem? (i := 9) rfl)),
  List.forall_mem_cons.mpr ⟨sd_iconst 146 145 0 ⟨by decide, by decide⟩ (dk_146_2 (145, .iconst 0, 1) (List.mem_of_getElem? (i := 10) rfl)),
  List.forall_mem_cons.mpr ⟨sd_callV 146 146 136 2 5 183 7 [] (gdV hws_146 hws_136 zw462 zw463 zw464 zw358 zw461) hws_136 rfl (by decide +kernel) rfl rfl ⟨by decide +kernel, by decide +kernel, by decide +kernel⟩ ⟨by decide, by decide⟩ (catch_nil rfl) RX6 rfl TX6 23 rfl ⟨by decide, by decide⟩ (dk_146_2 (146, .invokevirtual 183, 3) (List.mem_of_getElem? (i := 11) rfl)),
  List.forall_mem_cons.mpr ⟨sd_i2l 146 149 (dk_146_2 (149, .i2l, 1) (List.mem_of_getElem? (i := 12) rfl)),
  List.forall_mem_cons.mpr ⟨sd_ladd 146 150 (dk_146_2 (150, .ladd, 1) (List.mem_of_getElem? (i := 13) rfl)),
  List.forall_mem_cons.mpr ⟨sd_ldc2 146 151 194 31 (iw_146 _ zw474) (dk_146_2 (151, .ldc2_w 194, 3) (List.mem_of_getElem? (i := 14) rfl)),
  List.forall_mem_cons.mpr ⟨sd_lmul 146 154 (dk_146_2 (154, .lmul, 1) (List.mem_of_getElem? (i := 15) rfl)),
  List.forall_mem_cons.mpr ⟨sd_oLdR_n 146 155 0 0 rfl (dk_146_2 (155, .aload_n 0, 1) (List.mem_of_getElem? (i := 16) rfl)),
  List.forall_mem_cons.mpr ⟨sd_oLdI_n 146 156 3 3 rfl (dk_146_2 (156, .iload_n 3, 1) (List.mem_of_getElem? (i := 17) rfl)),
  List.forall_mem_cons.mpr ⟨sd_iconst 146 157 5 ⟨by decide, by decide⟩ (dk_146_2 (157, .iconst 5, 1) (List.mem_of_getElem? (i := 18) rfl)),
  List.forall_mem_cons.mpr ⟨sd_callV 146 158 136 2 5 183 7 [] (gdV hws_146 hws_136 zw462 zw463 zw464 zw358 zw461) hws_136 rfl (by decide +kernel) rfl rfl ⟨by decide +kernel, by decide +kernel, by decide +kernel⟩ ⟨by decide, by decide⟩ (catch_nil rfl) RX6 rfl TX6 23 rfl ⟨by decide, by decide⟩ (dk_146_2 (158, .invokevirtual 183, 3) (List.mem_of_getElem? (i := 19) rfl)),
  List.forall_mem_cons.mpr ⟨sd_i2l 146 161 (dk_146_2 (161, .i2l, 1) (List.mem_of_getElem? (i := 20) rfl)),
  List.forall_mem_cons.mpr ⟨sd_ladd 146 162 (dk_146_2 (162, .ladd, 1) (List.mem_of_getElem? (i := 21) rfl)),
  List.forall_mem_cons.mpr ⟨sd_oStL_n 146 163 1 1 rfl (by decide) (dk_146_2 (163, .lstore_n 1, 1) (List.mem_of_getElem? (i := 22) rfl)),
  List.forall_mem_cons.mpr ⟨sd_iinc 146 164 3 1 (by decide) (dk_146_2 (164, .iinc 3 1, 3) (List.mem_of_getElem? (i := 23) rfl)),
  List.forall_mem_cons.mpr ⟨sd_goto 146 167 (-61) 106 (by decide) (dk_146_2 (167, .goto (-61), 3) (List.mem_of_getElem? (i := 24) rfl)),
  List.forall_mem_cons.mpr ⟨sd_iconst 146 170 0 ⟨by decide, by decide⟩ (dk_146_2 (170, .iconst 0, 1) (List.mem_of_getElem? (i := 25) rfl)),
  List.forall_mem_cons.mpr ⟨sd_oStI_n 146 171 3 3 rfl (by decide) (dk_146_2 (171, .istore_n 3, 1) (List.mem_of_getElem? (i := 26) rfl)),
  List.forall_mem_cons.mpr ⟨sd_oLdI_n 146 172 3 3 rfl (dk_146_2 (172, .iload_n 3, 1) (List.mem_of_getElem? (i := 27) rfl)),
  List.forall_mem_cons.mpr ⟨sd_oLdR_n 146 173 0 0 rfl (dk_146_2 (173, .aload_n 0, 1) (List.mem_of_getElem? (i := 28) rfl)),
  List.forall_mem_cons.mpr ⟨sd_oGetI 146 174 7 7 76 RX6 TX6 23 rfl ⟨by decide, by decide⟩ rfl (by decide) rfl (fun w h => iw_146 w (uz_6 w h)) rfl (iw_146 _ zw359) (dk_146_2 (174, .getfield 76, 3) (List.mem_of_getElem? (i := 29) rfl)),
  List.forall_mem_cons.mpr ⟨sd_icmp_ge 146 177 121 298 (by decide) (dk_146_2 (177, .if_icmp .ge 121, 3) (List.mem_of_getElem? (i := 30) rfl)),
  List.forall_mem_cons.mpr ⟨sd_oLdR_n 146 180 0 0 rfl (dk_146_2 (180, .aload_n 0, 1) (List.mem_of_getElem? (i := 31) rfl)),
  List.forall_mem_cons.mpr ⟨sd_oGetR 146 181 7 12 33 RX6 TX6 23 rfl ⟨by decide, by decide⟩ rfl (by decide) rfl (fun w h => iw_146 w (uz_6 w h)) rfl (iw_146 _ zw341) (dk_146_2 (181, .getfield 33, 3) (List.mem_of_getElem? (i := 32) rfl)),
  List.forall_mem_cons.mpr ⟨sd_oLdI_n 146 184 3 3 rfl (dk_146_2 (184, .iload_n 3, 1) (List.mem_of_getElem? (i := 33) rfl)),
  List.forall_mem_cons.mpr ⟨sd_iald 146 185 (dk_146_2 (185, .iaload, 1) (List.mem_of_getElem? (i := 34) rfl)),
  List.forall_mem_cons.mpr ⟨sd_iconst 146 186 2 ⟨by decide, by decide⟩ (dk_146_2 (186, .iconst 2, 1) (List.mem_of_getElem? (i := 35) rfl)),
  List.forall_mem_cons.mpr ⟨sd_icmp_ne 146 187 6 193 (by decide) (dk_146_2 (187, .if_icmp .ne 6, 3) (List.mem_of_getElem? (i := 36) rfl)),
  List.forall_mem_cons.mpr ⟨sd_goto 146 190 102 292 (by decide) (dk_146_2 (190, .goto 102, 3) (List.mem_of_getElem? (i := 37) rfl)),
  fun _ h => nomatch h⟩⟩⟩⟩⟩⟩⟩⟩⟩⟩⟩⟩⟩⟩⟩⟩⟩⟩⟩⟩⟩⟩⟩⟩⟩⟩⟩⟩⟩⟩⟩⟩⟩⟩⟩⟩⟩⟩⟩
def tb_146_3 : List (Nat × Op1) := [(193, oLdL 1 1), (194, oCL 31 3), (197, oLMul), (198, oLdI 3 1), (199, oI2L), (200, oLAdd), (201, oStL 1 1), (202, oCI 0 1), (203, oStI 4 2), (205, oLdI 4 2), (207, oCI 11 2), (209, oCge 233), (212, oLdL 1 1), (213, oCL 31 3), (216, oLMul), (217, oLdR 0 1), (218, oLdI 3 1), (219, oLdI 4 2), (221, oCallV 128 2 4 7 []), (224, oI2L), (225, oLAdd), (226, oStL 1 1), (227, oInc 4 1), (230, oGoto 205), (233, oLdL 1 1), (234, oCL 31 3), (237, oLMul), (238, oLdR 0 1), (239, oLdR 0 1), (240, oGetR 7 11), (243, oLdI 3 1), (244, oALdI 10), (245, oCallV 119 1 6 7 []), (248, oI2L), (249, oLAdd), (250, oStL 1 1), (251, oCI 0 1), (252, oStI 4 2), (254, oLdI 4 2)]
theorem sm_146_3 : ∀ q ∈ tb_146_3, SM GwP MdP D A l 146 q.1 q.2 :=
  List.forall_mem_cons.mpr ⟨sd_oLdL_n 146 193 1 1 rfl (dk_146_2 (193, .lload_n 1, 1) (List.mem_of_getElem? (i := 38) rfl)),
  List.forall_mem_cons.mpr ⟨sd_ldc2 146 194 194 31 (iw_146 _ zw474) (dk_146_2 (194, .ldc2_w 194, 3) (List.mem_of_getElem? (i := 39) rfl)),
  List.forall_mem_cons.mpr ⟨sd_lmul 146 197 (dk_146_3 (197, .lmul, 1) (List.mem_of_getElem? (i := 0) rfl)),
  List.forall_mem_cons.mpr ⟨sd_oLdI_n 146 198 3 3 rfl (dk_146_3 (198, .iload_n 3, 1) (List.mem_of_getElem? (i := 1) rfl)),
  List.forall_mem_cons.mpr ⟨sd_i2l 146 199 (dk_146_3 (199, .i2l, 1) (List.mem_of_getElem? (i := 2) rfl)),
  List.forall_mem_cons.mpr ⟨sd_ladd 146 200 (dk_146_3 (200, .ladd, 1) (List.mem_of_getElem? (i := 3) rfl)),
  List.forall_mem_cons.mpr ⟨sd_oStL_n 146 201 1 1 rfl (by decide) (dk_146_3 (201, .lstore_n 1, 1) (List.mem_of_getElem? (i := 4) rfl)),
  List.forall_mem_cons.mpr ⟨sd_iconst 146 202 0 ⟨by decide, by decide⟩ (dk_146_3 (202, .iconst 0, 1) (List.mem_of_getElem? (i := 5) rfl)),
  List.forall_mem_cons.mpr ⟨sd_oStI 146 203 4 (by decide) (dk_146_3 (203, .istore 4, 2) (List.mem_of_getElem? (i := 6) rfl)),
  List.forall_mem_cons.mpr ⟨sd_oLdI 146 205 4 (dk_146_3 (205, .iload 4, 2) (List.mem_of_getElem? (i := 7) rfl)),
  List.forall_mem_cons.mpr ⟨sd_bipush 146 207 11 ⟨by decide, by decide⟩ (by decide) (dk_146_3 (207, .bipush 11, 2) (List.mem_of_getElem? (i := 8) rfl)),
  List.forall_mem_cons.mpr ⟨sd_icmp_ge 146 209 24 233 (by decide) (dk_146_3 (209, .if_icmp .ge 24, 3) (List.mem_of_getElem? (i := 9) rfl)),
  List.forall_mem_cons.mpr ⟨sd_oLdL_n 146 212 1 1 rfl (dk_146_3 (212, .lload_n 1, 1) (List.mem_of_getElem? (i := 10) rfl)),
  List.forall_mem_cons.mpr ⟨sd_ldc2 146 213 194 31 (iw_146 _ zw474) (dk_146_3 (213, .ldc2_w 194, 3) (List.mem_of_getElem? (i := 11) rfl)),
  List.forall_mem_cons.mpr ⟨sd_lmul 146 216 (dk_146_3 (216, .lmul, 1) (List.mem_of_getElem? (i := 12) rfl)),
  List.forall_mem_cons.mpr ⟨sd_oLdR_n 146 217 0 0 rfl (dk_146_3 (217, .aload_n 0, 1) (List.mem_of_getElem? (i := 13) rfl)),
  List.forall_mem_cons.mpr ⟨sd_oLdI_n 146 218 3 3 rfl (dk_146_3 (218, .iload_n 3, 1) (List.mem_of_getElem? (i := 14) rfl)),
  List.forall_mem_cons.mpr ⟨sd_oLdI 146 219 4 (dk_146_3 (219, .iload 4, 2) (List.mem_of_getElem? (i := 15) rfl)),
  List.forall_mem_cons.mpr ⟨sd_callV 146 221 128 2 4 167 7 [] (gdV hws_146 hws_128 zw445 zw446 zw447 zw358 zw444) hws_128 rfl (by decide +kernel) rfl rfl ⟨by decide +kernel, by decide +kernel, by decide +kernel⟩ ⟨by decide, by decide⟩ (catch_nil rfl) RX6 rfl TX6 23 rfl ⟨by decide, by decide⟩ (dk_146_3 (221, .invokevirtual 167, 3) (List.mem_of_getElem? (i := 16) rfl)),
  List.forall_mem_cons.mpr ⟨sd_i2l 146 224 (dk_146_3 (224, .i2l, 1) (List.mem_of_getElem? (i := 17) rfl)),
  List.forall_mem_cons.mpr ⟨sd_ladd 146 225 (dk_146_3 (225, .ladd, 1) (List.mem_of_getElem? (i := 18) rfl)),
  List.forall_mem_cons.mpr ⟨sd_oStL_n 146 226 1 1 rfl (by decide) (dk_146_3 (226, .lstore_n 1, 1) (List.mem_of_getElem? (i := 19) rfl)),
  List.forall_mem_cons.mpr ⟨sd_iinc 146 227 4 1 (by decide) (dk_146_3 (227, .iinc 4 1, 3) (List.mem_of_getElem? (i := 20) rfl)),
  List.forall_mem_cons.mpr ⟨sd_goto 146 230 (-25) 205 (by decide) (dk_146_3 (230, .goto (-25), 3) (List.mem_of_getElem? (i := 21) rfl)),
  List.forall_mem_cons.mpr ⟨sd_oLdL_n 146 233 1 1 rfl (dk_146_3 (233, .lload_n 1, 1) (List.mem_of_getElem? (i := 22) rfl)),
  List.forall_mem_cons.mpr ⟨sd_ldc2 146 234 194 31 (iw_146 _ zw474) (dk_146_3 (234, .ldc2_w 194, 3) (List.mem_of_getElem? (i := 23) rfl)),
  List.forall_mem_cons.mpr ⟨sd_lmul 146 237 (dk_146_3 (237, .lmul, 1) (List.mem_of_getElem? (i := 24) rfl)),
  List.forall_mem_cons.mpr ⟨sd_oLdR_n 146 238 0 0 rfl (dk_146_3 (238, .aload_n 0, 1) (List.mem_of_getElem? (i := 25) rfl)),
  List.forall_mem_cons.mpr ⟨sd_oLdR_n 146 239 0 0 rfl (dk_146_3 (239, .aload_n 0, 1) (List.mem_of_getElem? (i := 26) rfl)),
  List.forall_mem_cons.mpr ⟨sd_oGetR 146 240 7 11 30 RX6 TX6 23 rfl ⟨by decide, by decide⟩ rfl (by decide) rfl (fun w h => iw_146 w (uz_6 w h)) rfl (iw_146 _ zw340) (dk_146_3 (240, .getfield 30, 3) (List.mem_of_getElem? (i := 27) rfl)),
  List.forall_mem_cons.mpr ⟨sd_oLdI_n 146 243 3 3 rfl (dk_146_3 (243, .iload_n 3, 1) (List.mem_of_getElem? (i := 28) rfl)),
  List.forall_mem_cons.mpr ⟨sd_iald 146 244 (dk_146_3 (244, .iaload, 1) (List.mem_of_getElem? (i := 29) rfl)),
  List.forall_mem_cons.mpr ⟨sd_callV 146 245 119 1 6 155 7 [] (gdV hws_146 hws_119 zw429 zw430 zw431 zw358 zw428) hws_119 rfl (by decide +kernel) rfl rfl ⟨by decide +kernel, by decide +kernel, by decide +kernel⟩ ⟨by decide, by decide⟩ (catch_nil rfl) RX6 rfl TX6 23 rfl ⟨by decide, by decide⟩ (dk_146_3 (245, .invokevirtual 155, 3) (List.mem_of_getElem? (i := 30) rfl)),
  List.forall_mem_cons.mpr ⟨sd_i2l 146 248 (dk_146_3 (248, .i2l, 1) (List.mem_of_getElem? (i := 31) rfl)),
  List.forall_mem_cons.mpr ⟨sd_ladd 146 249 (dk_146_3 (249, .ladd, 1) (List.mem_of_getElem? (i := 32) rfl)),
  List.forall_mem_cons.mpr ⟨sd_oStL_n 146 250 1 1 rfl (by decide) (dk_146_3 (250, .lstore_n 1, 1) (List.mem_of_getElem? (i := 33) rfl)),
  List.forall_mem_cons.mpr ⟨sd_iconst 146 251 0 ⟨by decide, by decide⟩ (dk_146_3 (251, .iconst 0, 1) (List.mem_of_getElem? (i := 34) rfl)),
  List.forall_mem_cons.mpr ⟨sd_oStI 146 252 4 (by decide) (dk_146_3 (252, .istore 4, 2) (List.mem_of_getElem? (i := 35) rfl)),
  List.forall_mem_cons.mpr ⟨sd_oLdI 146 254 4 (dk_146_3 (254, .iload 4, 2) (List.mem_of_getElem? (i := 36) rfl)),
  fun _ h => nomatch h⟩⟩⟩⟩⟩⟩⟩⟩⟩⟩⟩⟩⟩⟩⟩⟩⟩⟩⟩⟩⟩⟩⟩⟩⟩⟩⟩⟩⟩⟩⟩⟩⟩⟩⟩⟩⟩⟩⟩
def tb_146_4 : List (Nat × Op1) := [(256, oLdR 0 1), (257, oGetI 7 1), (260, oCge 292), (263, oLdL 1 1), (264, oCL 31 3), (267, oLMul), (268, oLdR 0 1), (269, oLdI 4 2), (271, oLdI 3 1), (272, oCallV 109 2 3 7 []), (275, oZeq 282), (278, oCI 1 1), (279, oGoto 283), (282, oCI 0 1), (283, oI2L), (284, oLAdd), (285, oStL 1 1), (286, oInc 4 1), (289, oGoto 254), (292, oInc 3 1), (295, oGoto 172), (298, oLdR 0 1), (299, oGetR 7 20), (302, oStR 3 1), (303, oLdR 3 1), (304, oALen 10), (305, oStI 4 2), (307, oCI 0 1), (308, oStI 5 2), (310, oLdI 5 2), (312, oLdI 4 2), (314, oCge 339), (317, oLdR 3 1), (318, oLdI 5 2)]
theorem sm_146_4 : ∀ q ∈ tb_146_4, SM GwP MdP D A l 146 q.1 q.2 :=
  List.forall_mem_cons.mpr ⟨sd_oLdR_n 146 256 0 0 rfl (dk_146_3 (256, .aload_n 0, 1) (List.mem_of_getElem? (i := 37) rfl)),
  List.forall_mem_cons.mpr ⟨sd_oGetI 146 257 7 1 69 RX6 TX6 23 rfl ⟨by decide, by decide⟩ rfl (by decide) rfl (fun w h => iw_146 w (uz_6 w h)) rfl (iw_146 _ zw354) (dk_146_3 (257, .getfield 69, 3) (List.mem_of_getElem? (i := 38) rfl)),
  List.forall_mem_cons.mpr ⟨sd_icmp_ge 146 260 32 292 (by decide) (dk_146_3 (260, .if_icmp .ge 32, 3) (List.mem_of_getElem? (i := 39) rfl)),
  List.forall_mem_cons.mpr ⟨sd_oLdL_n 146 263 1 1 rfl (dk_146_4 (263, .lload_n 1, 1) (List.mem_of_getElem? (i := 0) rfl)),
  List.forall_mem_cons.mpr ⟨sd_ldc2 146 264 194 31 (iw_146 _ zw474) (dk_146_4 (264, .ldc2_w 194, 3) (List.mem_of_getElem? (i := 1) rfl)),
  List.forall_mem_cons.mpr ⟨sd_lmul 146 267 (dk_146_4 (267, .lmul, 1) (List.mem_of_getElem? (i := 2) rfl)),
  List.forall_mem_cons.mpr ⟨sd_oLdR_n 146 268 0 0 rfl (dk_146_4 (268, .aload_n 0, 1) (List.mem_of_getElem? (i := 3) rfl)),
  List.forall_mem_cons.mpr ⟨sd_oLdI 146 269 4 (dk_146_4 (269, .iload 4, 2) (List.mem_of_getElem? (i := 4) rfl)),
  List.forall_mem_cons.mpr ⟨sd_oLdI_n 146 271 3 3 rfl (dk_146_4 (271, .iload_n 3, 1) (List.mem_of_getElem? (i := 5) rfl)),
  List.forall_mem_cons.mpr ⟨sd_callV 146 272 109 2 3 126 7 [] (gdV hws_146 hws_109 zw394 zw395 zw396 zw358 zw393) hws_109 rfl (by decide +kernel) rfl rfl ⟨by decide +kernel, by decide +kernel, by decide +kernel⟩ ⟨by decide, by decide⟩ (catch_nil rfl) RX6 rfl TX6 23 rfl ⟨by decide, by decide⟩ (dk_146_4 (272, .invokevirtual 126, 3) (List.mem_of_getElem? (i := 6) rfl)),
  List.forall_mem_cons.mpr ⟨sd_if_eq 146 275 7 282 (by decide) (dk_146_4 (275, .ifCond .eq 7, 3) (List.mem_of_getElem? (i := 7) rfl)),
  List.forall_mem_cons.mpr ⟨sd_iconst 146 278 1 ⟨by decide, by decide⟩ (dk_146_4 (278, .iconst 1, 1) (List.mem_of_getElem? (i := 8) rfl)),
  List.forall_mem_cons.mpr ⟨sd_goto 146 279 4 283 (by decide) (dk_146_4 (279, .goto 4, 3) (List.mem_of_getElem? (i := 9) rfl)),
  List.forall_mem_cons.mpr ⟨sd_iconst 146 282 0 ⟨by decide, by decide⟩ (dk_146_4 (282, .iconst 0, 1) (List.mem_of_getElem? (i := 10) rfl)),
  List.forall_mem_cons.mpr ⟨sd_i2l 146 283 (dk_146_4 (283, .i2l, 1) (List.mem_of_getElem? (i := 11) rfl)),
  List.forall_mem_cons.mpr ⟨sd_ladd 146 284 (dk_146_4 (284, .ladd, 1) (List.mem_of_getElem? (i := 12) rfl)),
  List.forall_mem_cons.mpr ⟨sd_oStL_n 146 285 1 1 rfl (by decide) (dk_146_4 (285, .lstore_n 1, 1) (List.mem_of_getElem? (i := 13) rfl)),
  List.forall_mem_cons.mpr ⟨sd_iinc 146 286 4 1 (by decide) (dk_146_4 (286, .iinc 4 1, 3) (List.mem_of_getElem? (i := 14) rfl)),
  List.forall_mem_cons.mpr ⟨sd_goto 146 289 (-35) 254 (by decide) (dk_146_4 (289, .goto (-35), 3) (List.mem_of_getElem? (i := 15) rfl)),
  List.forall_mem_cons.mpr ⟨sd_iinc 146 292 3 1 (by decide) (dk_146_4 (292, .iinc 3 1, 3) (List.mem_of_getElem? (i := 16) rfl)),
  List.forall_mem_cons.mpr ⟨sd_goto 146 295 (-123) 172 (by decide) (dk_146_4 (295, .goto (-123), 3) (List.mem_of_getElem? (i := 17) rfl)),
  List.forall_mem_cons.mpr ⟨sd_oLdR_n 146 298 0 0 rfl (dk_146_4 (298, .aload_n 0, 1) (List.mem_of_getElem? (i := 18) rfl)),
  List.forall_mem_cons.mpr ⟨sd_oGetR 146 299 7 20 59 RX6 TX6 23 rfl ⟨by decide, by decide⟩ rfl (by decide) rfl (fun w h => iw_146 w (uz_6 w h)) rfl (iw_146 _ zw351) (dk_146_4 (299, .getfield 59, 3) (List.mem_of_getElem? (i := 19) rfl)),
  List.forall_mem_cons.mpr ⟨sd_oStR_n 146 302 3 3 rfl (by decide) (dk_146_4 (302, .astore_n 3, 1) (List.mem_of_getElem? (i := 20) rfl)),
  List.forall_mem_cons.mpr ⟨sd_oLdR_n 146 303 3 3 rfl (dk_146_4 (303, .aload_n 3, 1) (List.mem_of_getElem? (i := 21) rfl)),
  List.forall_mem_cons.mpr ⟨sd_alen 146 304 10 ⟨by decide, by decide⟩ (dk_146_4 (304, .arraylength, 1) (List.mem_of_getElem? (i := 22) rfl)),
  List.forall_mem_cons.mpr ⟨sd_oStI 146 305 4 (by decide) (dk_146_4 (305, .istore 4, 2) (List.mem_of_getElem? (i := 23) rfl)),
  List.forall_mem_cons.mpr ⟨sd_iconst 146 307 0 ⟨by decide, by decide⟩ (dk_146_4 (307, .iconst 0, 1) (List.mem_of_getElem? (i := 24) rfl)),
  List.forall_mem_cons.mpr ⟨sd_oStI 146 308 5 (by decide) (dk_146_4 (308, .istore 5, 2) (List.mem_of_getElem? (i := 25) rfl)),
  List.forall_mem_cons.mpr ⟨sd_oLdI 146 310 5 (dk_146_4 (310, .iload 5, 2) (List.mem_of_getElem? (i := 26) rfl)),
  List.forall_mem_cons.mpr ⟨sd_oLdI 146 312 4 (dk_146_4 (312, .iload 4, 2) (List.mem_of_getElem? (i := 27) rfl)),
  List.forall_mem_cons.mpr ⟨sd_icmp_ge 146 314 25 339 (by decide) (dk_146_4 (314, .if_icmp .ge 25, 3) (List.mem_of_getElem? (i := 28) rfl)),
  List.forall_mem_cons.mpr ⟨sd_oLdR_n 146 317 3 3 rfl (dk_146_4 (317, .aload_n 3, 1) (List.mem_of_getElem? (i := 29) rfl)),
  List.forall_mem_cons.mpr ⟨sd_oLdI 146 318 5 (dk_146_4 (318, .iload 5, 2) (List.mem_of_getElem? (i := 30) rfl)),
  fun _ h => nomatch h⟩⟩⟩⟩⟩⟩⟩⟩⟩⟩⟩⟩⟩⟩⟩⟩⟩⟩⟩⟩⟩⟩⟩⟩⟩⟩⟩⟩⟩⟩⟩⟩⟩⟩
def tb_146_5 : List (Nat × Op1) := [(320, oALdI 10), (321, oStI 6 2), (323, oLdL 1 1), (324, oCL 31 3), (327, oLMul), (328, oLdI 6 2), (330, oI2L), (331, oLAdd), (332, oStL 1 1), (333, oInc 5 1), (336, oGoto 310), (339, oLdL 1 1), (340, oRetL)]
theorem sm_146_5 : ∀ q ∈ tb_146_5, SM GwP MdP D A l 146 q.1 q.2 :=
  List.forall_mem_cons.mpr ⟨sd_iald 146 320 (dk_146_4 (320, .iaload, 1) (List.mem_of_getElem? (i := 31) rfl)),
  List.forall_mem_cons.mpr ⟨sd_oStI 146 321 6 (by decide) (dk_146_4 (321, .istore 6, 2) (List.mem_of_getElem? (i := 32) rfl)),
  List.forall_mem_cons.mpr ⟨sd_oLdL_n 146 323 1 1 rfl (dk_146_4 (323, .lload_n 1, 1) (List.mem_of_getElem? (i := 33) rfl)),
  List.forall_mem_cons.mpr ⟨sd_ldc2 146 324 194 31 (iw_146 _ zw474) (dk_146_4 (324, .ldc2_w 194, 3) (List.mem_of_getElem? (i := 34) rfl)),
  List.forall_mem_cons.mpr ⟨sd_lmul 146 327 (dk_146_4 (327, .lmul, 1) (List.mem_of_getElem? (i := 35) rfl)),
  List.forall_mem_cons.mpr ⟨sd_oLdI 146 328 6 (dk_146_4 (328, .iload 6, 2) (List.mem_of_getElem? (i := 36) rfl)),
  List.forall_mem_cons.mpr ⟨sd_i2l 146 330 (dk_146_4 (330, .i2l, 1) (List.mem_of_getElem? (i := 37) rfl)),
  List.forall_mem_cons.mpr ⟨sd_ladd 146 331 (dk_146_4 (331, .ladd, 1) (List.mem_of_getElem? (i := 38) rfl)),
  List.forall_mem_cons.mpr ⟨sd_oStL_n 146 332 1 1 rfl (by decide) (dk_146_4 (332, .lstore_n 1, 1) (List.mem_of_getElem? (i := 39) rfl)),
  List.forall_mem_cons.mpr ⟨sd_iinc 146 333 5 1 (by decide) (dk_146_5 (333, .iinc 5 1, 3) (List.mem_of_getElem? (i := 0) rfl)),
  List.forall_mem_cons.mpr ⟨sd_goto 146 336 (-26) 310 (by decide) (dk_146_5 (336, .goto (-26), 3) (List.mem_of_getElem? (i := 1) rfl)),
  List.forall_mem_cons.mpr ⟨sd_oLdL_n 146 339 1 1 rfl (dk_146_5 (339, .lload_n 1, 1) (List.mem_of_getElem? (i := 2) rfl)),
  List.forall_mem_cons.mpr ⟨sd_lret 146 340 rfl (dk_146_5 (340, .lreturn, 1) (List.mem_of_getElem? (i := 3) rfl)),
  fun _ h => nomatch h⟩⟩⟩⟩⟩⟩⟩⟩⟩⟩⟩⟩⟩
def tb_146 : List (List (Nat × Op1)) := [tb_146_0, tb_146_1, tb_146_2, tb_146_3, tb_146_4, tb_146_5]
theorem sm_146 : ∀ t ∈ tb_146, ∀ q ∈ t, SM GwP MdP D A l 146 q.1 q.2 := List.forall_mem_cons.mpr ⟨sm_146_0, List.forall_mem_cons.mpr ⟨sm_146_1, List.forall_mem_cons.mpr ⟨sm_146_2, List.forall_mem_cons.mpr ⟨sm_146_3, List.forall_mem_cons.mpr ⟨sm_146_4, List.forall_mem_cons.mpr ⟨sm_146_5, fun _ h => nomatch h⟩⟩⟩⟩⟩⟩
end
