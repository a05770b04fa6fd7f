-- Strings: decode rows (printed by wip/g9zc.py), the methods' contracts
theorem yd_pre_0 : decode prog_22_method_11_code 0 = .ok ((.iload_n 0), 1) := by decide +kernel
theorem yd_pre_1 : decode prog_22_method_11_code 1 = .ok ((.ifCond .lt 8), 3) := by decide +kernel
theorem yd_pre_4 : decode prog_22_method_11_code 4 = .ok ((.iload_n 0), 1) := by decide +kernel
theorem yd_pre_5 : decode prog_22_method_11_code 5 = .ok ((.iload_n 1), 1) := by decide +kernel
theorem yd_pre_6 : decode prog_22_method_11_code 6 = .ok ((.if_icmp .lt 10), 3) := by decide +kernel
theorem yd_pre_9 : decode prog_22_method_11_code 9 = .ok ((.aload_n 2), 1) := by decide +kernel
theorem yd_pre_10 : decode prog_22_method_11_code 10 = .ok ((.iload_n 0), 1) := by decide +kernel
theorem yd_pre_11 : decode prog_22_method_11_code 11 = .ok ((.iload_n 1), 1) := by decide +kernel
theorem yd_pre_12 : decode prog_22_method_11_code 12 = .ok ((.invokestatic 95), 3) := by decide +kernel
theorem yd_pre_15 : decode prog_22_method_11_code 15 = .ok (.athrow, 1) := by decide +kernel
theorem yd_pre_16 : decode prog_22_method_11_code 16 = .ok ((.iload_n 0), 1) := by decide +kernel
theorem yd_pre_17 : decode prog_22_method_11_code 17 = .ok (.ireturn, 1) := by decide +kernel
theorem yd_chk_0 : decode prog_18_method_155_code 0 = .ok ((.iload_n 0), 1) := by decide +kernel
theorem yd_chk_1 : decode prog_18_method_155_code 1 = .ok ((.iload_n 1), 1) := by decide +kernel
theorem yd_chk_2 : decode prog_18_method_155_code 2 = .ok ((.getstatic 1053), 3) := by decide +kernel
theorem yd_chk_5 : decode prog_18_method_155_code 5 = .ok ((.invokestatic 1059), 3) := by decide +kernel
theorem yd_chk_8 : decode prog_18_method_155_code 8 = .ok (.pop, 1) := by decide +kernel
theorem yd_chk_9 : decode prog_18_method_155_code 9 = .ok (.return_, 1) := by decide +kernel
theorem yd_lat_0 : decode prog_19_method_2_code 0 = .ok ((.iload_n 1), 1) := by decide +kernel
theorem yd_lat_1 : decode prog_19_method_2_code 1 = .ok ((.aload_n 0), 1) := by decide +kernel
theorem yd_lat_2 : decode prog_19_method_2_code 2 = .ok (.arraylength, 1) := by decide +kernel
theorem yd_lat_3 : decode prog_19_method_2_code 3 = .ok ((.invokestatic 9), 3) := by decide +kernel
theorem yd_lat_6 : decode prog_19_method_2_code 6 = .ok ((.aload_n 0), 1) := by decide +kernel
theorem yd_lat_7 : decode prog_19_method_2_code 7 = .ok ((.iload_n 1), 1) := by decide +kernel
theorem yd_lat_8 : decode prog_19_method_2_code 8 = .ok (.baload, 1) := by decide +kernel
theorem yd_lat_9 : decode prog_19_method_2_code 9 = .ok ((.sipush 255), 3) := by decide +kernel
theorem yd_lat_12 : decode prog_19_method_2_code 12 = .ok (.iand, 1) := by decide +kernel
theorem yd_lat_13 : decode prog_19_method_2_code 13 = .ok (.i2c, 1) := by decide +kernel
theorem yd_lat_14 : decode prog_19_method_2_code 14 = .ok (.ireturn, 1) := by decide +kernel
theorem yd_isl_0 : decode prog_18_method_154_code 0 = .ok ((.getstatic 38), 3) := by decide +kernel
theorem yd_isl_3 : decode prog_18_method_154_code 3 = .ok ((.ifCond .eq 14), 3) := by decide +kernel
theorem yd_isl_6 : decode prog_18_method_154_code 6 = .ok ((.aload_n 0), 1) := by decide +kernel
theorem yd_isl_7 : decode prog_18_method_154_code 7 = .ok ((.getfield 15), 3) := by decide +kernel
theorem yd_isl_10 : decode prog_18_method_154_code 10 = .ok ((.ifCond .ne 7), 3) := by decide +kernel
theorem yd_isl_13 : decode prog_18_method_154_code 13 = .ok ((.iconst 1), 1) := by decide +kernel
theorem yd_isl_14 : decode prog_18_method_154_code 14 = .ok ((.goto 4), 3) := by decide +kernel
theorem yd_isl_17 : decode prog_18_method_154_code 17 = .ok ((.iconst 0), 1) := by decide +kernel
theorem yd_isl_18 : decode prog_18_method_154_code 18 = .ok (.ireturn, 1) := by decide +kernel
theorem yd_cod_0 : decode prog_18_method_152_code 0 = .ok ((.getstatic 38), 3) := by decide +kernel
theorem yd_cod_3 : decode prog_18_method_152_code 3 = .ok ((.ifCond .eq 10), 3) := by decide +kernel
theorem yd_cod_6 : decode prog_18_method_152_code 6 = .ok ((.aload_n 0), 1) := by decide +kernel
theorem yd_cod_7 : decode prog_18_method_152_code 7 = .ok ((.getfield 15), 3) := by decide +kernel
theorem yd_cod_10 : decode prog_18_method_152_code 10 = .ok ((.goto 4), 3) := by decide +kernel
theorem yd_cod_13 : decode prog_18_method_152_code 13 = .ok ((.iconst 1), 1) := by decide +kernel
theorem yd_cod_14 : decode prog_18_method_152_code 14 = .ok (.ireturn, 1) := by decide +kernel
theorem yd_len_0 : decode prog_18_method_54_code 0 = .ok ((.aload_n 0), 1) := by decide +kernel
theorem yd_len_1 : decode prog_18_method_54_code 1 = .ok ((.getfield 9), 3) := by decide +kernel
theorem yd_len_4 : decode prog_18_method_54_code 4 = .ok (.arraylength, 1) := by decide +kernel
theorem yd_len_5 : decode prog_18_method_54_code 5 = .ok ((.aload_n 0), 1) := by decide +kernel
theorem yd_len_6 : decode prog_18_method_54_code 6 = .ok ((.invokevirtual 335), 3) := by decide +kernel
theorem yd_len_9 : decode prog_18_method_54_code 9 = .ok (.ishr, 1) := by decide +kernel
theorem yd_len_10 : decode prog_18_method_54_code 10 = .ok (.ireturn, 1) := by decide +kernel
theorem yd_chr_0 : decode prog_18_method_56_code 0 = .ok ((.aload_n 0), 1) := by decide +kernel
theorem yd_chr_1 : decode prog_18_method_56_code 1 = .ok ((.invokevirtual 492), 3) := by decide +kernel
theorem yd_chr_4 : decode prog_18_method_56_code 4 = .ok ((.ifCond .eq 12), 3) := by decide +kernel
theorem yd_chr_7 : decode prog_18_method_56_code 7 = .ok ((.aload_n 0), 1) := by decide +kernel
theorem yd_chr_8 : decode prog_18_method_56_code 8 = .ok ((.getfield 9), 3) := by decide +kernel
theorem yd_chr_11 : decode prog_18_method_56_code 11 = .ok ((.iload_n 1), 1) := by decide +kernel
theorem yd_chr_12 : decode prog_18_method_56_code 12 = .ok ((.invokestatic 495), 3) := by decide +kernel
theorem yd_chr_15 : decode prog_18_method_56_code 15 = .ok (.ireturn, 1) := by decide +kernel
theorem yd_chr_16 : decode prog_18_method_56_code 16 = .ok ((.aload_n 0), 1) := by decide +kernel
theorem yd_chr_17 : decode prog_18_method_56_code 17 = .ok ((.getfield 9), 3) := by decide +kernel
theorem yd_chr_20 : decode prog_18_method_56_code 20 = .ok ((.iload_n 1), 1) := by decide +kernel
theorem yd_chr_21 : decode prog_18_method_56_code 21 = .ok ((.invokestatic 498), 3) := by decide +kernel
theorem yd_chr_24 : decode prog_18_method_56_code 24 = .ok (.ireturn, 1) := by decide +kernel
theorem yd_oft_0 : decode prog_5_method_5_code 0 = .ok ((.lconst 0), 1) := by decide +kernel
theorem yd_oft_1 : decode prog_5_method_5_code 1 = .ok ((.lstore_n 1), 1) := by decide +kernel
theorem yd_oft_2 : decode prog_5_method_5_code 2 = .ok ((.iconst 0), 1) := by decide +kernel
theorem yd_oft_3 : decode prog_5_method_5_code 3 = .ok ((.istore_n 3), 1) := by decide +kernel
theorem yd_oft_4 : decode prog_5_method_5_code 4 = .ok ((.iload_n 3), 1) := by decide +kernel
theorem yd_oft_5 : decode prog_5_method_5_code 5 = .ok ((.aload_n 0), 1) := by decide +kernel
theorem yd_oft_6 : decode prog_5_method_5_code 6 = .ok ((.invokevirtual 21), 3) := by decide +kernel
theorem yd_oft_9 : decode prog_5_method_5_code 9 = .ok ((.if_icmp .ge 29), 3) := by decide +kernel
theorem yd_oft_12 : decode prog_5_method_5_code 12 = .ok ((.iload_n 3), 1) := by decide +kernel
theorem yd_oft_13 : decode prog_5_method_5_code 13 = .ok ((.bipush 8), 2) := by decide +kernel
theorem yd_oft_15 : decode prog_5_method_5_code 15 = .ok ((.if_icmp .ge 23), 3) := by decide +kernel
theorem yd_oft_18 : decode prog_5_method_5_code 18 = .ok ((.lload_n 1), 1) := by decide +kernel
theorem yd_oft_19 : decode prog_5_method_5_code 19 = .ok ((.aload_n 0), 1) := by decide +kernel
theorem yd_oft_20 : decode prog_5_method_5_code 20 = .ok ((.iload_n 3), 1) := by decide +kernel
theorem yd_oft_21 : decode prog_5_method_5_code 21 = .ok ((.invokevirtual 27), 3) := by decide +kernel
theorem yd_oft_24 : decode prog_5_method_5_code 24 = .ok (.i2l, 1) := by decide +kernel
theorem yd_oft_25 : decode prog_5_method_5_code 25 = .ok ((.bipush 8), 2) := by decide +kernel
theorem yd_oft_27 : decode prog_5_method_5_code 27 = .ok ((.iload_n 3), 1) := by decide +kernel
theorem yd_oft_28 : decode prog_5_method_5_code 28 = .ok (.imul, 1) := by decide +kernel
theorem yd_oft_29 : decode prog_5_method_5_code 29 = .ok (.lshl, 1) := by decide +kernel
theorem yd_oft_30 : decode prog_5_method_5_code 30 = .ok (.lor, 1) := by decide +kernel
theorem yd_oft_31 : decode prog_5_method_5_code 31 = .ok ((.lstore_n 1), 1) := by decide +kernel
theorem yd_oft_32 : decode prog_5_method_5_code 32 = .ok ((.iinc 3 1), 3) := by decide +kernel
theorem yd_oft_35 : decode prog_5_method_5_code 35 = .ok ((.goto (-31)), 3) := by decide +kernel
theorem yd_oft_38 : decode prog_5_method_5_code 38 = .ok ((.lload_n 1), 1) := by decide +kernel
theorem yd_oft_39 : decode prog_5_method_5_code 39 = .ok (.lreturn, 1) := by decide +kernel
theorem yn_pre : (parseMethodDescriptor yPre.desc).map (fun d => d.parameters.length) = some 3 := by decide +kernel
theorem yn_chk : (parseMethodDescriptor yChk.desc).map (fun d => d.parameters.length) = some 2 := by decide +kernel
theorem yn_lat : (parseMethodDescriptor yLat.desc).map (fun d => d.parameters.length) = some 2 := by decide +kernel
theorem yn_isl : (parseMethodDescriptor yIsL.desc).map (fun d => d.parameters.length) = some 0 := by decide +kernel
theorem yn_cod : (parseMethodDescriptor yCod.desc).map (fun d => d.parameters.length) = some 0 := by decide +kernel
theorem yn_len : (parseMethodDescriptor yLen.desc).map (fun d => d.parameters.length) = some 0 := by decide +kernel
theorem yn_chr : (parseMethodDescriptor yChr.desc).map (fun d => d.parameters.length) = some 1 := by decide +kernel
theorem yn_oft : (parseMethodDescriptor yOfT.desc).map (fun d => d.parameters.length) = some 1 := by decide +kernel
theorem y_sl {fm : Value} {i N : Int32} (h : fm.category = 1) : (lg_sl [.int i, .int N, fm]).length ≤ 3 := by
  cases fm <;> first | exact Nat.le_of_ble_eq_true rfl | (simp [Value.category] at h)
section YB
variable {l : Launch} {b str val n : Nat} {g : Nat → Int32} {fm : Value}
set_option maxRecDepth 100000 in
theorem y_pre {i N : Int32} (hfm : fm.category = 1) (h0 : ¬ i < 0) (hN : i < N) : Met l yPre (Cond.code yPre prog_22_method_11_code 3 (some .int) :: xTb) (xRm 0 0 0) (yPc b str val n g fm [.int i, .int N, fm]) (yQc (some (.int i))) 0 0 (fun _ => False) := by
  refine y_met (by decide) (y_sl hfm) ?_
  intro p e s m args below meth c la F hrt hlk hY hl
  obtain ⟨hx, hb, hml, hown, hts⟩ := id F
  refine lv_iload_n hx hb yd_pre_0 rfl (lv_at hl 0 rfl) ?_
  refine lv_if_lt hx hb yd_pre_1 (tgt := 9) rfl (fun q => absurd q h0) (fun _ => ?_)
  refine lv_iload_n hx hb yd_pre_4 rfl (lv_at hl 0 rfl) ?_
  refine lv_iload_n hx hb yd_pre_5 rfl (lv_at hl 1 rfl) ?_
  refine lv_icmp_lt hx hb yd_pre_6 (tgt := 16) rfl (fun _ => ?_) (fun q => absurd hN q)
  refine lv_iload_n hx hb yd_pre_16 rfl (lv_at hl 0 rfl) ?_
  exact W.iret hx hb hrt (fun t ht _ => ⟨rfl, ht⟩) (fun q hq => by cases hq) yd_pre_17
set_option maxRecDepth 100000 in
theorem y_chk {i N : Int32} (hfm : fm.category = 1) (h0 : ¬ i < 0) (hN : i < N) : Met l yChk (Cond.code yChk prog_18_method_155_code 2 none :: xTb) (xRm 1 0 0) (yPc b str val n g fm [.int i, .int N]) (yQc none) 0 0 (fun _ => False) := by
  refine y_met (by decide) (Nat.le_of_ble_eq_true rfl) ?_
  intro p e s m args below meth c la F hrt hlk hY hl
  obtain ⟨hx, hb, hml, hown, hts⟩ := id F
  refine lv_iload_n hx hb yd_chk_0 rfl (lv_at hl 0 rfl) ?_
  refine lv_iload_n hx hb yd_chk_1 rfl (lv_at hl 1 rfl) ?_
  refine va_gets hx hb hY.2.2.2.2.2 va_S.rf hown (hts _ yw_fm) (fun _ h => h) yd_chk_2 ?_
  refine y_cS (As := [.int i, .int N, fm]) (rest := []) F (y_pre hfm h0 hN) yw_pre.2.2 yw_pre.2.1 yi_3 yw_pre.1 ⟨by decide, by decide, yn_pre⟩ ⟨by decide, by decide⟩ hY hl.1 rfl (Nat.le_of_ble_eq_true rfl) yd_chk_5 ⟨Nat.le_refl _, Nat.le_refl _⟩ ?_
  refine lv_pop hx hb yd_chk_8 rfl ?_
  exact W.vret hx hb hrt (fun t ht _ => ⟨rfl, ht⟩) (fun q hq => by cases hq) yd_chk_9
/-- the character at k -/
def yC (g : Nat → Int32) (k : Nat) : Int32 := ((g k &&& 255).toUInt32 % 65536).toInt32
set_option maxRecDepth 100000 in
theorem y_lat {k : Nat} (hfm : fm.category = 1) (hk : k < n) (hn : n < 9) (hC : narrow .char (.int (yC g k)) = .int (yC g k)) : Met l yLat (Cond.code yLat prog_19_method_2_code 2 (some .char) :: xTb) (xRm 2 0 0) (yPc b str val n g fm [.ref val, .int (nI k)]) (yQc (some (.int (yC g k)))) 0 0 (fun _ => False) := by
  refine y_met (by decide) (Nat.le_of_ble_eq_true rfl) ?_
  intro p e s m args below meth c la F hrt hlk hY hl
  obtain ⟨hx, hb, hml, hown, hts⟩ := id F
  refine lv_iload_n hx hb yd_lat_0 rfl (lv_at hl 1 rfl) ?_
  refine lv_aload_n hx hb yd_lat_1 rfl (lv_at hl 0 rfl) ?_
  refine va_tlen hx hb hY.2.2.2.1 va_S.rf rfl yd_lat_2 ?_
  refine y_cS (As := [.int (nI k), .int (nI n)]) (rest := []) F (y_chk hfm (nI_pos (by omega)) (nI_lt hk (by omega))) yw_chk.2.2 yw_chk.2.1 yi_1 yw_chk.1 ⟨by decide, by decide, yn_chk⟩ ⟨by decide, by decide⟩ hY hl.1 rfl (Nat.le_of_ble_eq_true rfl) yd_lat_3 ⟨Nat.le_refl _, Nat.le_refl _⟩ ?_
  refine lv_aload_n hx hb yd_lat_6 rfl (lv_at hl 0 rfl) ?_
  refine lv_iload_n hx hb yd_lat_7 rfl (lv_at hl 1 rfl) ?_
  refine va_tb hx hb hY.2.2.2.1 va_S.rf (xib_in (xib_nI hk (by omega))) (v := .int (g k)) (by rw [nI_clamp (by omega)]) yd_lat_8 ?_
  refine lv_sipush hx hb yd_lat_9 (v := 255) (by decide) ?_
  refine lv_iand hx hb yd_lat_12 ?_
  refine lv_i2c hx hb yd_lat_13 (v := yC g k) rfl ?_
  exact W.zret hx hb hrt hC (fun t ht _ => ⟨rfl, ht⟩) (fun q hq => by cases hq) yd_lat_14
set_option maxRecDepth 100000 in
theorem y_isl : Met l yIsL (Cond.code yIsL prog_18_method_154_code 1 (some .boolean) :: xTb) (xRm 0 0 0) (yPc b str val n g fm [.ref str]) (yQc (some (.int 1))) 0 0 (fun _ => False) := by
  refine y_met (by decide) (Nat.le_of_ble_eq_true rfl) ?_
  intro p e s m args below meth c la F hrt hlk hY hl
  obtain ⟨hx, hb, hml, hown, hts⟩ := id F
  refine va_gets hx hb hY.2.2.2.2.1 va_S.rf hown (hts _ yw_cs) (fun _ h => h) yd_isl_0 ?_
  refine lv_if_eq hx hb yd_isl_3 (tgt := 17) rfl (fun q => absurd q (by decide)) (fun _ => ?_)
  refine lv_aload_n hx hb yd_isl_6 rfl (lv_at hl 0 rfl) ?_
  refine vk_getf hx hb hY.2.1 va_S.rf hown (hts _ yw_cdr) (fun _ h => h) yd_isl_7 ?_
  refine lv_if_ne hx hb yd_isl_10 (tgt := 17) rfl (fun q => absurd rfl q) (fun _ => ?_)
  refine lv_iconst hx hb yd_isl_13 (v := 1) (by decide) ?_
  refine lv_goto hx hb yd_isl_14 (tgt := 18) rfl ?_
  exact W.zret hx hb hrt (by decide) (fun t ht _ => ⟨rfl, ht⟩) (fun q hq => by cases hq) yd_isl_18
set_option maxRecDepth 100000 in
theorem y_cod : Met l yCod (Cond.code yCod prog_18_method_152_code 1 (some .byte) :: xTb) (xRm 0 0 0) (yPc b str val n g fm [.ref str]) (yQc (some (.int 0))) 0 0 (fun _ => False) := by
  refine y_met (by decide) (Nat.le_of_ble_eq_true rfl) ?_
  intro p e s m args below meth c la F hrt hlk hY hl
  obtain ⟨hx, hb, hml, hown, hts⟩ := id F
  refine va_gets hx hb hY.2.2.2.2.1 va_S.rf hown (hts _ yw_cs) (fun _ h => h) yd_cod_0 ?_
  refine lv_if_eq hx hb yd_cod_3 (tgt := 13) rfl (fun q => absurd q (by decide)) (fun _ => ?_)
  refine lv_aload_n hx hb yd_cod_6 rfl (lv_at hl 0 rfl) ?_
  refine vk_getf hx hb hY.2.1 va_S.rf hown (hts _ yw_cdr) (fun _ h => h) yd_cod_7 ?_
  refine lv_goto hx hb yd_cod_10 (tgt := 14) rfl ?_
  exact W.zret hx hb hrt (by decide) (fun t ht _ => ⟨rfl, ht⟩) (fun q hq => by cases hq) yd_cod_14
theorem y_shr : ∀ n : Nat, n < 9 → nI n >>> ((0 : Int32) &&& 31) = nI n := by decide +kernel
set_option maxRecDepth 100000 in
theorem y_len (hn : n < 9) : Met l yLen (Cond.code yLen prog_18_method_54_code 1 (some .int) :: xTb) (xRm 1 0 0) (yPc b str val n g fm [.ref str]) (yQc (some (.int (nI n)))) 0 0 (fun _ => False) := by
  refine y_met (by decide) (Nat.le_of_ble_eq_true rfl) ?_
  intro p e s m args below meth c la F hrt hlk hY hl
  obtain ⟨hx, hb, hml, hown, hts⟩ := id F
  refine lv_aload_n hx hb yd_len_0 rfl (lv_at hl 0 rfl) ?_
  refine vk_getf hx hb hY.2.2.1 va_S.rf hown (hts _ yw_val) (fun _ h => h) yd_len_1 ?_
  refine va_tlen hx hb hY.2.2.2.1 va_S.rf rfl yd_len_4 ?_
  refine lv_aload_n hx hb yd_len_5 rfl (lv_at hl 0 rfl) ?_
  refine y_cV (As := []) (rest := [.int (nI n)]) F y_cod yw_cod.2.2.2 yw_cod.2.1 yw_cod.2.2.1 yi_1 yw_cod.1 ⟨by decide, by decide, yn_cod⟩ ⟨by decide, by decide⟩ hY hl.1 rfl (Nat.le_of_ble_eq_true rfl) yd_len_6 ⟨Nat.le_refl _, Nat.le_refl _⟩ ?_
  refine lv_ishr hx hb yd_len_9 ?_
  rw [y_shr n hn]
  exact W.iret hx hb hrt (fun t ht _ => ⟨rfl, ht⟩) (fun q hq => by cases hq) yd_len_10
set_option maxRecDepth 100000 in
theorem y_chr {k : Nat} (hfm : fm.category = 1) (hk : k < n) (hn : n < 9) (hC : narrow .char (.int (yC g k)) = .int (yC g k)) : Met l yChr (Cond.code yChr prog_18_method_56_code 2 (some .char) :: xTb) (xRm 3 0 0) (yPc b str val n g fm [.ref str, .int (nI k)]) (yQc (some (.int (yC g k)))) 0 0 (fun _ => False) := by
  refine y_met (by decide) (Nat.le_of_ble_eq_true rfl) ?_
  intro p e s m args below meth c la F hrt hlk hY hl
  obtain ⟨hx, hb, hml, hown, hts⟩ := id F
  refine lv_aload_n hx hb yd_chr_0 rfl (lv_at hl 0 rfl) ?_
  refine y_cV (As := []) (rest := []) F y_isl yw_isl.2.2.2 yw_isl.2.1 yw_isl.2.2.1 yi_1 yw_isl.1 ⟨by decide, by decide, yn_isl⟩ ⟨by decide, by decide⟩ hY hl.1 rfl (Nat.le_of_ble_eq_true rfl) yd_chr_1 ⟨Nat.le_refl _, Nat.le_refl _⟩ ?_
  refine lv_if_eq hx hb yd_chr_4 (tgt := 16) rfl (fun q => absurd q (by decide)) (fun _ => ?_)
  refine lv_aload_n hx hb yd_chr_7 rfl (lv_at hl 0 rfl) ?_
  refine vk_getf hx hb hY.2.2.1 va_S.rf hown (hts _ yw_val) (fun _ h => h) yd_chr_8 ?_
  refine lv_iload_n hx hb yd_chr_11 rfl (lv_at hl 1 rfl) ?_
  refine y_cS (As := [.ref val, .int (nI k)]) (rest := []) F (y_lat hfm hk hn hC) yw_lat.2.2 yw_lat.2.1 yi_2 yw_lat.1 ⟨by decide, by decide, yn_lat⟩ ⟨by decide, by decide⟩ hY hl.1 rfl (Nat.le_of_ble_eq_true rfl) yd_chr_12 ⟨Nat.le_refl _, Nat.le_refl _⟩ ?_
  exact W.zret hx hb hrt hC (fun t ht _ => ⟨rfl, ht⟩) (fun q hq => by cases hq) yd_chr_15
/-- the number of the first k characters -/
def yPk (g : Nat → Int32) : Nat → Int64
  | 0 => 0
  | k + 1 => yPk g k ||| ((yC g k).toInt64 <<< ((8 * nI k).toInt64 &&& 63))
set_option maxRecDepth 100000 in
theorem y_oft (hfm : fm.category = 1) (hn : n < 9) (hC : ∀ k, k < n → narrow .char (.int (yC g k)) = .int (yC g k)) : Met l yOfT (Cond.code yOfT prog_5_method_5_code 4 (some .long) :: xTb) (xRm 4 0 0) (yPc b str val n g fm [.ref str]) (yQc (some (.long (yPk g n)))) 0 0 (fun _ => False) := by
  refine y_met (by decide) (Nat.le_of_ble_eq_true rfl) ?_
  intro p e s m args below meth c la F hrt hlk hY hl
  obtain ⟨hx, hb, hml, hown, hts⟩ := id F
  have fin : ∀ la : Array Slot, lv_has la 4 [(3, .int (nI n)), (1, .long (yPk g n)), (0, .ref str)] → W p l e (xRm 4 0 0) s m args below meth c s.heap [] 0 0 (MQ below (yQc (some (.long (yPk g n)))) args s 0 0 (fun _ => False)) (F0 m 38 la []) := fun la hl => by
    refine lv_lload_n hx hb yd_oft_38 rfl (lv_at hl 1 rfl) ?_
    exact W.lret hx hb hrt (fun t ht _ => ⟨rfl, ht⟩) (fun q hq => by cases hq) yd_oft_39
  have loop : ∀ (j k : Nat) (la : Array Slot), j + k = n → lv_has la 4 [(3, .int (nI k)), (1, .long (yPk g k)), (0, .ref str)] → W p l e (xRm 4 0 0) s m args below meth c s.heap [] 0 0 (MQ below (yQc (some (.long (yPk g n)))) args s 0 0 (fun _ => False)) (F0 m 4 la []) := by
    intro j
    induction j with
    | zero =>
      intro k la hjk hl
      obtain rfl : k = n := by omega
      refine lv_iload_n hx hb yd_oft_4 rfl (lv_at hl 0 rfl) ?_
      refine lv_aload_n hx hb yd_oft_5 rfl (lv_at hl 2 rfl) ?_
      refine y_cV (As := []) (rest := [.int (nI k)]) F (y_len hn) yw_len.2.2.2 yw_len.2.1 yw_len.2.2.1 yi_1 yw_len.1 ⟨by decide, by decide, yn_len⟩ ⟨by decide, by decide⟩ hY hl.1 rfl (Nat.le_of_ble_eq_true rfl) yd_oft_6 ⟨Nat.le_refl _, Nat.le_refl _⟩ ?_
      exact lv_icmp_ge hx hb yd_oft_9 (tgt := 38) rfl (fun _ => fin la hl) (fun q => absurd (Int32.le_refl _) q)
    | succ j ih =>
      intro k la hjk hl
      have hk : k < n := by omega
      refine lv_iload_n hx hb yd_oft_4 rfl (lv_at hl 0 rfl) ?_
      refine lv_aload_n hx hb yd_oft_5 rfl (lv_at hl 2 rfl) ?_
      refine y_cV (As := []) (rest := [.int (nI k)]) F (y_len hn) yw_len.2.2.2 yw_len.2.1 yw_len.2.2.1 yi_1 yw_len.1 ⟨by decide, by decide, yn_len⟩ ⟨by decide, by decide⟩ hY hl.1 rfl (Nat.le_of_ble_eq_true rfl) yd_oft_6 ⟨Nat.le_refl _, Nat.le_refl _⟩ ?_
      refine lv_icmp_ge hx hb yd_oft_9 (tgt := 38) rfl (fun q => absurd q (nI_ge hk (by omega))) (fun _ => ?_)
      refine lv_iload_n hx hb yd_oft_12 rfl (lv_at hl 0 rfl) ?_
      refine lv_bipush hx hb yd_oft_13 (v := nI 8) (by decide) ?_
      refine lv_icmp_ge hx hb yd_oft_15 (tgt := 38) rfl (fun q => absurd q (nI_ge (by omega) (by omega))) (fun _ => ?_)
      refine lv_lload_n hx hb yd_oft_18 rfl (lv_at hl 1 rfl) ?_
      refine lv_aload_n hx hb yd_oft_19 rfl (lv_at hl 2 rfl) ?_
      refine lv_iload_n hx hb yd_oft_20 rfl (lv_at hl 0 rfl) ?_
      refine y_cV (As := [.int (nI k)]) (rest := [.long (yPk g k)]) F (y_chr hfm hk hn (hC k hk)) yw_chr.2.2.2 yw_chr.2.1 yw_chr.2.2.1 yi_1 yw_chr.1 ⟨by decide, by decide, yn_chr⟩ ⟨by decide, by decide⟩ hY hl.1 rfl (Nat.le_of_ble_eq_true rfl) yd_oft_21 ⟨Nat.le_refl _, Nat.le_refl _⟩ ?_
      refine lv_i2l hx hb yd_oft_24 rfl ?_
      refine lv_bipush hx hb yd_oft_25 (v := 8) (by decide) ?_
      refine lv_iload_n hx hb yd_oft_27 rfl (lv_at hl 0 rfl) ?_
      refine lv_imul hx hb yd_oft_28 ?_
      refine lv_lshl hx hb yd_oft_29 rfl ?_
      refine lv_lor hx hb yd_oft_30 ?_
      refine lv_lstore_n hx hb yd_oft_31 rfl hl (by decide) rfl (fun la2 hl2 => ?_)
      refine lv_iinc (k := 1) hx hb yd_oft_32 hl2 rfl rfl (by decide) rfl (fun la3 hl3 => ?_)
      refine lv_goto hx hb yd_oft_35 (tgt := 4) rfl ?_
      refine ih (k + 1) la3 (by omega) ?_
      rw [nI_succ]
      exact hl3
  refine lv_lconst hx hb yd_oft_0 (v := 0) (by decide) ?_
  refine lv_lstore_n hx hb yd_oft_1 rfl hl (by decide) rfl (fun la2 hl2 => ?_)
  refine lv_iconst hx hb yd_oft_2 (v := 0) (by decide) ?_
  refine lv_istore_n hx hb yd_oft_3 rfl hl2 (by decide) rfl (fun la3 hl3 => ?_)
  exact loop n 0 la3 rfl hl3
end YB
