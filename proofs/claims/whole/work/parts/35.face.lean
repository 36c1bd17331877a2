set_option maxHeartbeats 4000000 in
set_option maxRecDepth 100000 in
theorem f_wra_none (l : Launch) (D : va_G) (cI cZ cV : ClassId) (h : Nat) (qc : Nat) (qj : Nat) (qe : Nat) (qs : Nat) (qm : Nat) (mc : Int32) (ctr : Int32) (p0 : Int32) : XI l yEV_wrap cEV_wrap 3 (some .int) D (xT3 cI cZ cV) 1 0 0 [.ref h, .int p0] [(h, .inr (5, [.ref qc, .ref qj, .ref qe, .ref qs, .ref qm, .int mc, .null, .int ctr]))] (fun r u => r = -4 ∧ u = [(h, .inr (5, [.ref qc, .ref qj, .ref qe, .ref qs, .ref qm, .int mc, .null, .int ctr]))]) := by
  intro sz
  refine x_ofW (Qc := fun A => va_Qi _ (xB D A) A) sz (by decide) (Nat.le_of_ble_eq_true rfl) ?_
  intro p e s m args below meth c A ls S hr hlk hnm hw hl
  obtain ⟨hx, hb, hml, hown, hts⟩ := id S
  have hl : lv_has ls 3 [(0, .ref h), (1, .int p0)] := hl
  refine lv_aload_n hx hb dEV_wrap_0 rfl (lv_at hl 0 rfl) ?_
  refine x_get S hw (C := REV) (T := TEV) (N := 8) inEV 0 rfl rfl 6 (by decide) xh_1_105 (v := .null) rfl dEV_wrap_1 ?_
  refine lv_ifnonnullN hx hb dEV_wrap_4 ?_
  refine lv_bipush (v := (-4)) hx hb dEV_wrap_7 (by decide) ?_
  exact x_iret S hr hlk hw (by decide) (by decide) (⟨rfl, rfl⟩) dEV_wrap_9

set_option maxHeartbeats 4000000 in
set_option maxRecDepth 100000 in
theorem f_wra_lock (l : Launch) (D : va_G) (cI cZ cV : ClassId) (h : Nat) (qc : Nat) (qj : Nat) (qe : Nat) (qs : Nat) (qm : Nat) (mc : Int32) (ctr : Int32) (v0 : Nat) (v1 : Nat) (v2 : Nat) (num : Int32) (stt : Int32) (sec : Int32) (lk : Int32) (th : Int32) (sc : Int32) (gset : Int32) (gc : Int32) (p0 : Int32) (hl9 : ¬ lk = 0) : XI l yEV_wrap cEV_wrap 3 (some .int) D (xT3 cI cZ cV) 1 0 0 [.ref h, .int p0] [(h, .inr (5, [.ref qc, .ref qj, .ref qe, .ref qs, .ref qm, .int mc, .ref v0, .int ctr])), (v0, .inr (4, [.int num, .ref v1, .ref v2, .int stt, .int sec, .int lk, .int th, .int sc, .int gset, .int gc]))] (fun r u => r = -7 ∧ u = [(h, .inr (5, [.ref qc, .ref qj, .ref qe, .ref qs, .ref qm, .int mc, .ref v0, .int ctr])), (v0, .inr (4, [.int num, .ref v1, .ref v2, .int stt, .int sec, .int lk, .int th, .int sc, .int gset, .int gc]))]) := by
  intro sz
  refine x_ofW (Qc := fun A => va_Qi _ (xB D A) A) sz (by decide) (Nat.le_of_ble_eq_true rfl) ?_
  intro p e s m args below meth c A ls S hr hlk hnm hw hl
  obtain ⟨hx, hb, hml, hown, hts⟩ := id S
  have hl : lv_has ls 3 [(0, .ref h), (1, .int p0)] := hl
  refine lv_aload_n hx hb dEV_wrap_0 rfl (lv_at hl 0 rfl) ?_
  refine x_get S hw (C := REV) (T := TEV) (N := 8) inEV 0 rfl rfl 6 (by decide) xh_1_105 (v := .ref v0) rfl dEV_wrap_1 ?_
  refine lv_ifnonnull (tgt := 10) hx hb dEV_wrap_4 (by decide) ?_
  refine lv_aload_n hx hb dEV_wrap_10 rfl (lv_at hl 0 rfl) ?_
  refine x_get S hw (C := REV) (T := TEV) (N := 8) inEV 0 rfl rfl 6 (by decide) xh_1_105 (v := .ref v0) rfl dEV_wrap_11 ?_
  refine x_getN S hw (C := RVE) (T := TVE) (N := 10) inVE 1 rfl rfl 5 (by decide) xh_1_176 (v := .int lk) rfl dEV_wrap_14 ?_
  refine lv_if_eq (tgt := 23) hx hb dEV_wrap_17 (by decide) (fun h17 => absurd h17 hl9) (fun h17 => ?_)
  refine lv_bipush (v := (-7)) hx hb dEV_wrap_20 (by decide) ?_
  exact x_iret S hr hlk hw (by decide) (by decide) (⟨rfl, rfl⟩) dEV_wrap_22

set_option maxHeartbeats 4000000 in
set_option maxRecDepth 100000 in
theorem f_wra_ok (l : Launch) (D : va_G) (cI cZ cV : ClassId) (h : Nat) (qc : Nat) (qj : Nat) (qe : Nat) (qs : Nat) (qm : Nat) (mc : Int32) (ctr : Int32) (v0 : Nat) (v1 : Nat) (v2 : Nat) (num : Int32) (stt : Int32) (sec : Int32) (lk : Int32) (th : Int32) (sc : Int32) (gset : Int32) (gc : Int32) (e1 : Nat) (bs : Nat → Int32) (z9 : Int32) (p0 : Int32) (hl9 : lk = 0) : XI l yEV_wrap cEV_wrap 3 (some .int) D (xT3 cI cZ cV) 3 0 0 [.ref h, .int p0] [(h, .inr (5, [.ref qc, .ref qj, .ref qe, .ref qs, .ref qm, .int mc, .ref v0, .int ctr])), (v0, .inr (4, [.int num, .ref v1, .ref v2, .int stt, .int sec, .int lk, .int th, .int sc, .int gset, .int gc])), (qe, .inr (1, [.ref e1, .int z9])), (e1, .inl (cI, 16, .inl bs))] (fun r u => r = num ∧ u = [(h, .inr (5, [.ref qc, .ref qj, .ref qe, .ref qs, .ref qm, .int mc, .ref v0, .int (ctr + 1)])), (v0, .inr (4, [.int num, .ref v1, .ref v2, .int stt, .int sec, .int lk, .int th, .int sc, .int gset, .int gc])), (qe, .inr (1, [.ref e1, .int (nI ((((0 + 1) + 2) + 4) + 2))])), (e1, .inl (cI, 16, .inl (pbF (pbF (pbF (pbF bs 0 1 num 1) (0 + 1) 2 ctr 2) ((0 + 1) + 2) 4 (p0 ^^^ fPad sec ctr) 4) (((0 + 1) + 2) + 4) 2 (fTag sec ctr (p0 ^^^ fPad sec ctr)) 2)))]) := by
  intro sz
  refine x_ofW (Qc := fun A => va_Qi _ (xB D A) A) sz (by decide) (Nat.le_of_ble_eq_true rfl) ?_
  intro p e s m args below meth c A ls S hr hlk hnm hw hl
  obtain ⟨hx, hb, hml, hown, hts⟩ := id S
  have hl : lv_has ls 3 [(0, .ref h), (1, .int p0)] := hl
  refine lv_aload_n hx hb dEV_wrap_0 rfl (lv_at hl 0 rfl) ?_
  refine x_get S hw (C := REV) (T := TEV) (N := 8) inEV 0 rfl rfl 6 (by decide) xh_1_105 (v := .ref v0) rfl dEV_wrap_1 ?_
  refine lv_ifnonnull (tgt := 10) hx hb dEV_wrap_4 (by decide) ?_
  refine lv_aload_n hx hb dEV_wrap_10 rfl (lv_at hl 0 rfl) ?_
  refine x_get S hw (C := REV) (T := TEV) (N := 8) inEV 0 rfl rfl 6 (by decide) xh_1_105 (v := .ref v0) rfl dEV_wrap_11 ?_
  refine x_getN S hw (C := RVE) (T := TVE) (N := 10) inVE 1 rfl rfl 5 (by decide) xh_1_176 (v := .int lk) rfl dEV_wrap_14 ?_
  refine lv_if_eq (tgt := 23) hx hb dEV_wrap_17 (by decide) (fun h17 => ?_) (fun h17 => absurd hl9 h17)
  refine lv_iload_n hx hb dEV_wrap_23 rfl (lv_at hl 1 rfl) ?_
  refine lv_aload_n hx hb dEV_wrap_24 rfl (lv_at hl 0 rfl) ?_
  refine x_get S hw (C := REV) (T := TEV) (N := 8) inEV 0 rfl rfl 6 (by decide) xh_1_105 (v := .ref v0) rfl dEV_wrap_25 ?_
  refine x_getN S hw (C := RVE) (T := TVE) (N := 10) inVE 1 rfl rfl 4 (by decide) xh_1_174 (v := .int sec) rfl dEV_wrap_28 ?_
  refine lv_aload_n hx hb dEV_wrap_31 rfl (lv_at hl 0 rfl) ?_
  refine x_get S hw (C := REV) (T := TEV) (N := 8) inEV 0 rfl rfl 7 (by decide) xh_1_106 (v := .int ctr) rfl dEV_wrap_32 ?_
  refine x_calliD (ws' := [(h, .inr (5, [.ref qc, .ref qj, .ref qe, .ref qs, .ref qm, .int mc, .ref v0, .int ctr])), (v0, .inr (4, [.int num, .ref v1, .ref v2, .int stt, .int sec, .int lk, .int th, .int sc, .int gset, .int gc])), (qe, .inr (1, [.ref e1, .int z9])), (e1, .inl (cI, 16, .inl bs))]) hw [] rfl rfl (x_runS (n := 2) (rest := [.int p0]) (As := [.int sec, .int ctr]) S hw (k_pad l D cI cZ cV sec ctr _) xh_2_78 xh_2_76 xh_2_77 xh_1_1 (by decide +kernel) ⟨by decide, by decide⟩ [] rfl rfl rfl hl.1 rfl (Nat.le_of_ble_eq_true rfl) dEV_wrap_35 ⟨by decide, by decide⟩) rfl rfl (fun H locs hw => ?_)
  refine lv_ixor hx hb dEV_wrap_38 ?_
  refine lv_istore_n (lv' := [(2, .int (p0 ^^^ fPad sec ctr)), (0, .ref h), (1, .int p0)]) hx hb dEV_wrap_39 rfl hl (by decide) rfl (fun ls hl => ?_)
  refine lv_aload_n hx hb dEV_wrap_40 rfl (lv_at hl 1 rfl) ?_
  refine x_get S hw (C := REV) (T := TEV) (N := 8) inEV 0 rfl rfl 2 (by decide) xh_1_101 (v := .ref qe) rfl dEV_wrap_41 ?_
  refine lv_iconst (v := 0) hx hb dEV_wrap_44 (by decide) ?_
  refine x_putN S hw (C := REN) (T := TEN) (N := 2) inEN tyEN tyEN_ok nmEN 2 rfl rfl 1 (by decide) xh_1_72 rfl (v := .int 0) rfl rfl (Nat.le_of_ble_eq_true rfl) (ws' := [(h, .inr (5, [.ref qc, .ref qj, .ref qe, .ref qs, .ref qm, .int mc, .ref v0, .int ctr])), (v0, .inr (4, [.int num, .ref v1, .ref v2, .int stt, .int sec, .int lk, .int th, .int sc, .int gset, .int gc])), (qe, .inr (1, [.ref e1, .int 0])), (e1, .inl (cI, 16, .inl bs))]) rfl dEV_wrap_45 (fun H locs hw => ?_)
  refine lv_aload_n hx hb dEV_wrap_48 rfl (lv_at hl 1 rfl) ?_
  refine x_get S hw (C := REV) (T := TEV) (N := 8) inEV 0 rfl rfl 2 (by decide) xh_1_101 (v := .ref qe) rfl dEV_wrap_49 ?_
  refine lv_aload_n hx hb dEV_wrap_52 rfl (lv_at hl 1 rfl) ?_
  refine x_get S hw (C := REV) (T := TEV) (N := 8) inEV 0 rfl rfl 6 (by decide) xh_1_105 (v := .ref v0) rfl dEV_wrap_53 ?_
  refine x_getN S hw (C := RVE) (T := TVE) (N := 10) inVE 1 rfl rfl 0 (by decide) xh_1_168 (v := .int num) rfl dEV_wrap_56 ?_
  refine lv_iconst (v := 1) hx hb dEV_wrap_59 (by decide) ?_
  refine x_callvD (ws' := [(h, .inr (5, [.ref qc, .ref qj, .ref qe, .ref qs, .ref qm, .int mc, .ref v0, .int ctr])), (v0, .inr (4, [.int num, .ref v1, .ref v2, .int stt, .int sec, .int lk, .int th, .int sc, .int gset, .int gc])), (qe, .inr (1, [.ref e1, .int (nI (0 + 1))])), (e1, .inl (cI, 16, .inl (pbF bs 0 1 num 1)))]) hw [2, 3] rfl rfl (x_runV (n := 2) (rest := []) (As := [.int num, .int 1]) S hw (k_putBehind l D cI cZ cV qe e1 bs 0 1 num (by decide) _) xh_2_82 xh_2_79 xh_2_80 xh_2_81 xh_1_4 (by decide +kernel) ⟨by decide, by decide⟩ [2, 3] rfl rfl (ci := 1) (q0 := 2) rfl rfl rfl hl.1 rfl (Nat.le_of_ble_eq_true rfl) dEV_wrap_60 ⟨by decide, by decide⟩) rfl rfl (fun H locs hw => ?_)
  refine lv_aload_n hx hb dEV_wrap_63 rfl (lv_at hl 1 rfl) ?_
  refine x_get S hw (C := REV) (T := TEV) (N := 8) inEV 0 rfl rfl 2 (by decide) xh_1_101 (v := .ref qe) rfl dEV_wrap_64 ?_
  refine lv_aload_n hx hb dEV_wrap_67 rfl (lv_at hl 1 rfl) ?_
  refine x_get S hw (C := REV) (T := TEV) (N := 8) inEV 0 rfl rfl 7 (by decide) xh_1_106 (v := .int ctr) rfl dEV_wrap_68 ?_
  refine lv_iconst (v := 2) hx hb dEV_wrap_71 (by decide) ?_
  refine x_callvD (ws' := [(h, .inr (5, [.ref qc, .ref qj, .ref qe, .ref qs, .ref qm, .int mc, .ref v0, .int ctr])), (v0, .inr (4, [.int num, .ref v1, .ref v2, .int stt, .int sec, .int lk, .int th, .int sc, .int gset, .int gc])), (qe, .inr (1, [.ref e1, .int (nI ((0 + 1) + 2))])), (e1, .inl (cI, 16, .inl (pbF (pbF bs 0 1 num 1) (0 + 1) 2 ctr 2)))]) hw [2, 3] rfl rfl (x_runV (n := 2) (rest := []) (As := [.int ctr, .int 2]) S hw (k_putBehind l D cI cZ cV qe e1 (pbF bs 0 1 num 1) (0 + 1) 2 ctr (by decide) _) xh_2_82 xh_2_79 xh_2_80 xh_2_81 xh_1_4 (by decide +kernel) ⟨by decide, by decide⟩ [2, 3] rfl rfl (ci := 1) (q0 := 2) rfl rfl rfl hl.1 rfl (Nat.le_of_ble_eq_true rfl) dEV_wrap_72 ⟨by decide, by decide⟩) rfl rfl (fun H locs hw => ?_)
  refine lv_aload_n hx hb dEV_wrap_75 rfl (lv_at hl 1 rfl) ?_
  refine x_get S hw (C := REV) (T := TEV) (N := 8) inEV 0 rfl rfl 2 (by decide) xh_1_101 (v := .ref qe) rfl dEV_wrap_76 ?_
  refine lv_iload_n hx hb dEV_wrap_79 rfl (lv_at hl 0 rfl) ?_
  refine lv_iconst (v := 4) hx hb dEV_wrap_80 (by decide) ?_
  refine x_callvD (ws' := [(h, .inr (5, [.ref qc, .ref qj, .ref qe, .ref qs, .ref qm, .int mc, .ref v0, .int ctr])), (v0, .inr (4, [.int num, .ref v1, .ref v2, .int stt, .int sec, .int lk, .int th, .int sc, .int gset, .int gc])), (qe, .inr (1, [.ref e1, .int (nI (((0 + 1) + 2) + 4))])), (e1, .inl (cI, 16, .inl (pbF (pbF (pbF bs 0 1 num 1) (0 + 1) 2 ctr 2) ((0 + 1) + 2) 4 (p0 ^^^ fPad sec ctr) 4)))]) hw [2, 3] rfl rfl (x_runV (n := 2) (rest := []) (As := [.int (p0 ^^^ fPad sec ctr), .int 4]) S hw (k_putBehind l D cI cZ cV qe e1 (pbF (pbF bs 0 1 num 1) (0 + 1) 2 ctr 2) ((0 + 1) + 2) 4 (p0 ^^^ fPad sec ctr) (by decide) _) xh_2_82 xh_2_79 xh_2_80 xh_2_81 xh_1_4 (by decide +kernel) ⟨by decide, by decide⟩ [2, 3] rfl rfl (ci := 1) (q0 := 2) rfl rfl rfl hl.1 rfl (Nat.le_of_ble_eq_true rfl) dEV_wrap_81 ⟨by decide, by decide⟩) rfl rfl (fun H locs hw => ?_)
  refine lv_aload_n hx hb dEV_wrap_84 rfl (lv_at hl 1 rfl) ?_
  refine x_get S hw (C := REV) (T := TEV) (N := 8) inEV 0 rfl rfl 2 (by decide) xh_1_101 (v := .ref qe) rfl dEV_wrap_85 ?_
  refine lv_aload_n hx hb dEV_wrap_88 rfl (lv_at hl 1 rfl) ?_
  refine x_get S hw (C := REV) (T := TEV) (N := 8) inEV 0 rfl rfl 6 (by decide) xh_1_105 (v := .ref v0) rfl dEV_wrap_89 ?_
  refine x_getN S hw (C := RVE) (T := TVE) (N := 10) inVE 1 rfl rfl 4 (by decide) xh_1_174 (v := .int sec) rfl dEV_wrap_92 ?_
  refine lv_aload_n hx hb dEV_wrap_95 rfl (lv_at hl 1 rfl) ?_
  refine x_get S hw (C := REV) (T := TEV) (N := 8) inEV 0 rfl rfl 7 (by decide) xh_1_106 (v := .int ctr) rfl dEV_wrap_96 ?_
  refine lv_iload_n hx hb dEV_wrap_99 rfl (lv_at hl 0 rfl) ?_
  refine x_calliD (ws' := [(h, .inr (5, [.ref qc, .ref qj, .ref qe, .ref qs, .ref qm, .int mc, .ref v0, .int ctr])), (v0, .inr (4, [.int num, .ref v1, .ref v2, .int stt, .int sec, .int lk, .int th, .int sc, .int gset, .int gc])), (qe, .inr (1, [.ref e1, .int (nI (((0 + 1) + 2) + 4))])), (e1, .inl (cI, 16, .inl (pbF (pbF (pbF bs 0 1 num 1) (0 + 1) 2 ctr 2) ((0 + 1) + 2) 4 (p0 ^^^ fPad sec ctr) 4)))]) hw [] rfl rfl (x_runS (n := 3) (rest := [.ref qe]) (As := [.int sec, .int ctr, .int (p0 ^^^ fPad sec ctr)]) S hw (k_tag l D cI cZ cV sec ctr (p0 ^^^ fPad sec ctr) _) xh_2_90 xh_2_88 xh_2_89 xh_1_1 (by decide +kernel) ⟨by decide, by decide⟩ [] rfl rfl rfl hl.1 rfl (Nat.le_of_ble_eq_true rfl) dEV_wrap_100 ⟨by decide, by decide⟩) rfl rfl (fun H locs hw => ?_)
  refine lv_iconst (v := 2) hx hb dEV_wrap_103 (by decide) ?_
  refine x_callvD (ws' := [(h, .inr (5, [.ref qc, .ref qj, .ref qe, .ref qs, .ref qm, .int mc, .ref v0, .int ctr])), (v0, .inr (4, [.int num, .ref v1, .ref v2, .int stt, .int sec, .int lk, .int th, .int sc, .int gset, .int gc])), (qe, .inr (1, [.ref e1, .int (nI ((((0 + 1) + 2) + 4) + 2))])), (e1, .inl (cI, 16, .inl (pbF (pbF (pbF (pbF bs 0 1 num 1) (0 + 1) 2 ctr 2) ((0 + 1) + 2) 4 (p0 ^^^ fPad sec ctr) 4) (((0 + 1) + 2) + 4) 2 (fTag sec ctr (p0 ^^^ fPad sec ctr)) 2)))]) hw [2, 3] rfl rfl (x_runV (n := 2) (rest := []) (As := [.int (fTag sec ctr (p0 ^^^ fPad sec ctr)), .int 2]) S hw (k_putBehind l D cI cZ cV qe e1 (pbF (pbF (pbF bs 0 1 num 1) (0 + 1) 2 ctr 2) ((0 + 1) + 2) 4 (p0 ^^^ fPad sec ctr) 4) (((0 + 1) + 2) + 4) 2 (fTag sec ctr (p0 ^^^ fPad sec ctr)) (by decide) _) xh_2_82 xh_2_79 xh_2_80 xh_2_81 xh_1_4 (by decide +kernel) ⟨by decide, by decide⟩ [2, 3] rfl rfl (ci := 1) (q0 := 2) rfl rfl rfl hl.1 rfl (Nat.le_of_ble_eq_true rfl) dEV_wrap_104 ⟨by decide, by decide⟩) rfl rfl (fun H locs hw => ?_)
  refine lv_aload_n hx hb dEV_wrap_107 rfl (lv_at hl 1 rfl) ?_
  refine lv_dup hx hb dEV_wrap_108 rfl ?_
  refine x_get S hw (C := REV) (T := TEV) (N := 8) inEV 0 rfl rfl 7 (by decide) xh_1_106 (v := .int ctr) rfl dEV_wrap_109 ?_
  refine lv_iconst (v := 1) hx hb dEV_wrap_112 (by decide) ?_
  refine lv_iadd hx hb dEV_wrap_113 ?_
  refine x_put S hw (C := REV) (T := TEV) (N := 8) inEV tyEV tyEV_ok nmEV 0 rfl rfl 7 (by decide) xh_1_106 rfl (v := .int (ctr + 1)) rfl rfl (Nat.le_of_ble_eq_true rfl) (ws' := [(h, .inr (5, [.ref qc, .ref qj, .ref qe, .ref qs, .ref qm, .int mc, .ref v0, .int (ctr + 1)])), (v0, .inr (4, [.int num, .ref v1, .ref v2, .int stt, .int sec, .int lk, .int th, .int sc, .int gset, .int gc])), (qe, .inr (1, [.ref e1, .int (nI ((((0 + 1) + 2) + 4) + 2))])), (e1, .inl (cI, 16, .inl (pbF (pbF (pbF (pbF bs 0 1 num 1) (0 + 1) 2 ctr 2) ((0 + 1) + 2) 4 (p0 ^^^ fPad sec ctr) 4) (((0 + 1) + 2) + 4) 2 (fTag sec ctr (p0 ^^^ fPad sec ctr)) 2)))]) rfl dEV_wrap_114 (fun H locs hw => ?_)
  refine lv_aload_n hx hb dEV_wrap_117 rfl (lv_at hl 1 rfl) ?_
  refine x_get S hw (C := REV) (T := TEV) (N := 8) inEV 0 rfl rfl 6 (by decide) xh_1_105 (v := .ref v0) rfl dEV_wrap_118 ?_
  refine x_getN S hw (C := RVE) (T := TVE) (N := 10) inVE 1 rfl rfl 0 (by decide) xh_1_168 (v := .int num) rfl dEV_wrap_121 ?_
  exact x_iret S hr hlk hw (by decide) (by decide) (⟨rfl, rfl⟩) dEV_wrap_124

set_option maxHeartbeats 4000000 in
set_option maxRecDepth 100000 in
theorem f_unw_shape (l : Launch) (D : va_G) (cI cZ cV : ClassId) (h : Nat) (qc : Nat) (qj : Nat) (qe : Nat) (qs : Nat) (qm : Nat) (mc : Int32) (ctr : Int32) (act : Option Nat) (e1 : Nat) (bs : Nat → Int32) (z9 : Int32) (hz : ¬ z9 = 9) : XL l yEV_unwrap cEV_unwrap 4 (some .long) D (xT3 cI cZ cV) 1 0 0 [.ref h] [(h, .inr (5, [.ref qc, .ref qj, .ref qe, .ref qs, .ref qm, .int mc, va_rf act, .int ctr])), (qe, .inr (1, [.ref e1, .int z9])), (e1, .inl (cI, 16, .inl bs))] (fun r u => r = -5 ∧ u = [(h, .inr (5, [.ref qc, .ref qj, .ref qe, .ref qs, .ref qm, .int mc, va_rf act, .int ctr])), (qe, .inr (1, [.ref e1, .int z9])), (e1, .inl (cI, 16, .inl bs))]) := by
  intro sz
  refine x_ofW (Qc := fun A => va_Ql _ (xB D A) A) sz (by decide) (Nat.le_of_ble_eq_true rfl) ?_
  intro p e s m args below meth c A ls S hr hlk hnm hw hl
  obtain ⟨hx, hb, hml, hown, hts⟩ := id S
  have hl : lv_has ls 4 [(0, .ref h)] := hl
  refine lv_aload_n hx hb dEV_unwrap_0 rfl (lv_at hl 0 rfl) ?_
  refine x_get S hw (C := REV) (T := TEV) (N := 8) inEV 0 rfl rfl 2 (by decide) xh_1_101 (v := .ref qe) rfl dEV_unwrap_1 ?_
  refine x_getN S hw (C := REN) (T := TEN) (N := 2) inEN 1 rfl rfl 1 (by decide) xh_1_72 (v := .int z9) rfl dEV_unwrap_4 ?_
  refine lv_bipush (v := 9) hx hb dEV_unwrap_7 (by decide) ?_
  refine lv_icmp_eq (tgt := 16) hx hb dEV_unwrap_9 (by decide) (fun h9 => absurd h9 hz) (fun h9 => ?_)
  refine lv_ldc2 hx hb hown (hts _ xh_2_96) dEV_unwrap_12 ?_
  exact x_lret S hr hlk hw (by decide) (by decide) (⟨rfl, rfl⟩) dEV_unwrap_15

set_option maxHeartbeats 4000000 in
set_option maxRecDepth 100000 in
theorem f_unw_no (l : Launch) (D : va_G) (cI cZ cV : ClassId) (h : Nat) (qc : Nat) (qj : Nat) (qe : Nat) (qs : Nat) (qm : Nat) (mc : Int32) (ctr : Int32) (act : Option Nat) (e1 : Nat) (bs : Nat → Int32) (z9 : Int32) (hz : z9 = 9) (hv : nbF bs 0 1 < 0 ∨ mc ≤ nbF bs 0 1) : XL l yEV_unwrap cEV_unwrap 4 (some .long) D (xT3 cI cZ cV) 1 0 0 [.ref h] [(h, .inr (5, [.ref qc, .ref qj, .ref qe, .ref qs, .ref qm, .int mc, va_rf act, .int ctr])), (qe, .inr (1, [.ref e1, .int z9])), (e1, .inl (cI, 16, .inl bs))] (fun r u => r = -1 ∧ u = [(h, .inr (5, [.ref qc, .ref qj, .ref qe, .ref qs, .ref qm, .int mc, va_rf act, .int ctr])), (qe, .inr (1, [.ref e1, .int z9])), (e1, .inl (cI, 16, .inl bs))]) := by
  intro sz
  refine x_ofW (Qc := fun A => va_Ql _ (xB D A) A) sz (by decide) (Nat.le_of_ble_eq_true rfl) ?_
  intro p e s m args below meth c A ls S hr hlk hnm hw hl
  obtain ⟨hx, hb, hml, hown, hts⟩ := id S
  have hl : lv_has ls 4 [(0, .ref h)] := hl
  refine lv_aload_n hx hb dEV_unwrap_0 rfl (lv_at hl 0 rfl) ?_
  refine x_get S hw (C := REV) (T := TEV) (N := 8) inEV 0 rfl rfl 2 (by decide) xh_1_101 (v := .ref qe) rfl dEV_unwrap_1 ?_
  refine x_getN S hw (C := REN) (T := TEN) (N := 2) inEN 1 rfl rfl 1 (by decide) xh_1_72 (v := .int z9) rfl dEV_unwrap_4 ?_
  refine lv_bipush (v := 9) hx hb dEV_unwrap_7 (by decide) ?_
  refine lv_icmp_eq (tgt := 16) hx hb dEV_unwrap_9 (by decide) (fun h9 => ?_) (fun h9 => absurd hz h9)
  refine lv_aload_n hx hb dEV_unwrap_16 rfl (lv_at hl 0 rfl) ?_
  refine lv_aload_n hx hb dEV_unwrap_17 rfl (lv_at hl 0 rfl) ?_
  refine x_get S hw (C := REV) (T := TEV) (N := 8) inEV 0 rfl rfl 2 (by decide) xh_1_101 (v := .ref qe) rfl dEV_unwrap_18 ?_
  refine lv_iconst (v := 0) hx hb dEV_unwrap_21 (by decide) ?_
  refine lv_iconst (v := 1) hx hb dEV_unwrap_22 (by decide) ?_
  refine x_calliD (ws' := [(h, .inr (5, [.ref qc, .ref qj, .ref qe, .ref qs, .ref qm, .int mc, va_rf act, .int ctr])), (qe, .inr (1, [.ref e1, .int z9])), (e1, .inl (cI, 16, .inl bs))]) hw [1, 2] rfl rfl (x_runV (n := 2) (rest := [.ref h]) (As := [.int 0, .int 1]) S hw (k_number l D cI cZ cV qe e1 bs z9 0 1 (by decide) _) xh_2_100 xh_2_97 xh_2_98 xh_2_99 xh_1_4 (by decide +kernel) ⟨by decide, by decide⟩ [1, 2] rfl rfl (ci := 1) (q0 := 1) rfl rfl rfl hl.1 rfl (Nat.le_of_ble_eq_true rfl) dEV_unwrap_23 ⟨by decide, by decide⟩) rfl rfl (fun H locs hw => ?_)
  refine x_callqD (ws' := [(h, .inr (5, [.ref qc, .ref qj, .ref qe, .ref qs, .ref qm, .int mc, va_rf act, .int ctr])), (qe, .inr (1, [.ref e1, .int z9])), (e1, .inl (cI, 16, .inl bs))]) hw [0] rfl rfl (x_runV (n := 1) (rest := []) (As := [.int (nbF bs 0 1)]) S hw (k_find_no l D cI cZ cV h qc qj qe qs qm mc ctr act (nbF bs 0 1) hv _) xh_1_221 xh_1_218 xh_1_220 xsel_EV_find xh_1_1 (by decide +kernel) ⟨by decide, by decide⟩ [0] rfl rfl (ci := 5) (q0 := 0) rfl rfl rfl hl.1 rfl (Nat.le_of_ble_eq_true rfl) dEV_unwrap_26 ⟨by decide, by decide⟩) rfl rfl rfl (fun H locs hw => ?_)
  refine lv_astore_nN (lv' := [(1, .null), (0, .ref h)]) hx hb dEV_unwrap_29 rfl hl (by decide) rfl (fun ls hl => ?_)
  refine lv_aload_nN hx hb dEV_unwrap_30 rfl (lv_at hl 0 rfl) ?_
  refine lv_ifnonnullN hx hb dEV_unwrap_31 ?_
  refine lv_ldc2 hx hb hown (hts _ xh_2_101) dEV_unwrap_34 ?_
  exact x_lret S hr hlk hw (by decide) (by decide) (⟨rfl, rfl⟩) dEV_unwrap_37

set_option maxHeartbeats 4000000 in
set_option maxRecDepth 100000 in
theorem f_unw_gone (l : Launch) (D : va_G) (cI cZ cV : ClassId) (h : Nat) (qc : Nat) (qj : Nat) (qe : Nat) (qs : Nat) (qm : Nat) (ctr : Int32) (act : Option Nat) (n1 : Nat) (mk : Nat → Option Nat) (k0 : Nat) (v0 : Nat) (v1 : Nat) (v2 : Nat) (num : Int32) (stt : Int32) (sec : Int32) (lk : Int32) (th : Int32) (sc : Int32) (gset : Int32) (gc : Int32) (e1 : Nat) (bs : Nat → Int32) (z9 : Int32) (hm : mk k0 = some v0) (hk : k0 < n1 ∧ n1 ≤ 8) (hz : z9 = 9) (hb0 : nbF bs 0 1 = nI k0) (hs : stt = 3) : XL l yEV_unwrap cEV_unwrap 4 (some .long) D (xT3 cI cZ cV) 1 0 0 [.ref h] [(h, .inr (5, [.ref qc, .ref qj, .ref qe, .ref qs, .ref qm, .int (nI n1), va_rf act, .int ctr])), (qm, .inl (cV, 8, .inr (.inr (.inr (.inr mk))))), (v0, .inr (4, [.int num, .ref v1, .ref v2, .int stt, .int sec, .int lk, .int th, .int sc, .int gset, .int gc])), (qe, .inr (1, [.ref e1, .int z9])), (e1, .inl (cI, 16, .inl bs))] (fun r u => r = -6 ∧ u = [(h, .inr (5, [.ref qc, .ref qj, .ref qe, .ref qs, .ref qm, .int (nI n1), va_rf act, .int ctr])), (qm, .inl (cV, 8, .inr (.inr (.inr (.inr mk))))), (v0, .inr (4, [.int num, .ref v1, .ref v2, .int stt, .int sec, .int lk, .int th, .int sc, .int gset, .int gc])), (qe, .inr (1, [.ref e1, .int z9])), (e1, .inl (cI, 16, .inl bs))]) := by
  intro sz
  refine x_ofW (Qc := fun A => va_Ql _ (xB D A) A) sz (by decide) (Nat.le_of_ble_eq_true rfl) ?_
  intro p e s m args below meth c A ls S hr hlk hnm hw hl
  obtain ⟨hx, hb, hml, hown, hts⟩ := id S
  have hl : lv_has ls 4 [(0, .ref h)] := hl
  refine lv_aload_n hx hb dEV_unwrap_0 rfl (lv_at hl 0 rfl) ?_
  refine x_get S hw (C := REV) (T := TEV) (N := 8) inEV 0 rfl rfl 2 (by decide) xh_1_101 (v := .ref qe) rfl dEV_unwrap_1 ?_
  refine x_getN S hw (C := REN) (T := TEN) (N := 2) inEN 3 rfl rfl 1 (by decide) xh_1_72 (v := .int z9) rfl dEV_unwrap_4 ?_
  refine lv_bipush (v := 9) hx hb dEV_unwrap_7 (by decide) ?_
  refine lv_icmp_eq (tgt := 16) hx hb dEV_unwrap_9 (by decide) (fun h9 => ?_) (fun h9 => absurd hz h9)
  refine lv_aload_n hx hb dEV_unwrap_16 rfl (lv_at hl 0 rfl) ?_
  refine lv_aload_n hx hb dEV_unwrap_17 rfl (lv_at hl 0 rfl) ?_
  refine x_get S hw (C := REV) (T := TEV) (N := 8) inEV 0 rfl rfl 2 (by decide) xh_1_101 (v := .ref qe) rfl dEV_unwrap_18 ?_
  refine lv_iconst (v := 0) hx hb dEV_unwrap_21 (by decide) ?_
  refine lv_iconst (v := 1) hx hb dEV_unwrap_22 (by decide) ?_
  refine x_calliD (ws' := [(h, .inr (5, [.ref qc, .ref qj, .ref qe, .ref qs, .ref qm, .int (nI n1), va_rf act, .int ctr])), (qm, .inl (cV, 8, .inr (.inr (.inr (.inr mk))))), (v0, .inr (4, [.int num, .ref v1, .ref v2, .int stt, .int sec, .int lk, .int th, .int sc, .int gset, .int gc])), (qe, .inr (1, [.ref e1, .int z9])), (e1, .inl (cI, 16, .inl bs))]) hw [3, 4] rfl rfl (x_runV (n := 2) (rest := [.ref h]) (As := [.int 0, .int 1]) S hw (k_number l D cI cZ cV qe e1 bs z9 0 1 (by decide) _) xh_2_100 xh_2_97 xh_2_98 xh_2_99 xh_1_4 (by decide +kernel) ⟨by decide, by decide⟩ [3, 4] rfl rfl (ci := 1) (q0 := 3) rfl rfl rfl hl.1 rfl (Nat.le_of_ble_eq_true rfl) dEV_unwrap_23 ⟨by decide, by decide⟩) rfl rfl (fun H locs hw => ?_)
  refine x_topi (y := nI k0) (hb0) ?_
  refine x_callqD (ws' := [(h, .inr (5, [.ref qc, .ref qj, .ref qe, .ref qs, .ref qm, .int (nI n1), va_rf act, .int ctr])), (qm, .inl (cV, 8, .inr (.inr (.inr (.inr mk))))), (v0, .inr (4, [.int num, .ref v1, .ref v2, .int stt, .int sec, .int lk, .int th, .int sc, .int gset, .int gc])), (qe, .inr (1, [.ref e1, .int z9])), (e1, .inl (cI, 16, .inl bs))]) hw [0, 1] rfl rfl (x_runV (n := 1) (rest := []) (As := [.int (nI k0)]) S hw (k_find_ok l D cI cZ cV h qc qj qe qs qm ctr act n1 mk k0 v0 hm hk _) xh_1_221 xh_1_218 xh_1_220 xsel_EV_find xh_1_1 (by decide +kernel) ⟨by decide, by decide⟩ [0, 1] rfl rfl (ci := 5) (q0 := 0) rfl rfl rfl hl.1 rfl (Nat.le_of_ble_eq_true rfl) dEV_unwrap_26 ⟨by decide, by decide⟩) rfl rfl rfl (fun H locs hw => ?_)
  refine lv_astore_n (lv' := [(1, .ref v0), (0, .ref h)]) hx hb dEV_unwrap_29 rfl hl (by decide) rfl (fun ls hl => ?_)
  refine lv_aload_n hx hb dEV_unwrap_30 rfl (lv_at hl 0 rfl) ?_
  refine lv_ifnonnull (tgt := 38) hx hb dEV_unwrap_31 (by decide) ?_
  refine lv_aload_n hx hb dEV_unwrap_38 rfl (lv_at hl 0 rfl) ?_
  refine x_getN S hw (C := RVE) (T := TVE) (N := 10) inVE 2 rfl rfl 3 (by decide) xh_1_172 (v := .int stt) rfl dEV_unwrap_39 ?_
  refine lv_iconst (v := 3) hx hb dEV_unwrap_42 (by decide) ?_
  refine lv_icmp_ne (tgt := 50) hx hb dEV_unwrap_43 (by decide) (fun h43 => absurd hs h43) (fun h43 => ?_)
  refine lv_ldc2 hx hb hown (hts _ xh_2_102) dEV_unwrap_46 ?_
  exact x_lret S hr hlk hw (by decide) (by decide) (⟨rfl, rfl⟩) dEV_unwrap_49

set_option maxHeartbeats 4000000 in
set_option maxRecDepth 100000 in
theorem f_unw_lock (l : Launch) (D : va_G) (cI cZ cV : ClassId) (h : Nat) (qc : Nat) (qj : Nat) (qe : Nat) (qs : Nat) (qm : Nat) (ctr : Int32) (act : Option Nat) (n1 : Nat) (mk : Nat → Option Nat) (k0 : Nat) (v0 : Nat) (v1 : Nat) (v2 : Nat) (num : Int32) (stt : Int32) (sec : Int32) (lk : Int32) (th : Int32) (sc : Int32) (gset : Int32) (gc : Int32) (e1 : Nat) (bs : Nat → Int32) (z9 : Int32) (hm : mk k0 = some v0) (hk : k0 < n1 ∧ n1 ≤ 8) (hz : z9 = 9) (hb0 : nbF bs 0 1 = nI k0) (hs : ¬ stt = 3) (hl9 : ¬ lk = 0) : XL l yEV_unwrap cEV_unwrap 4 (some .long) D (xT3 cI cZ cV) 1 0 0 [.ref h] [(h, .inr (5, [.ref qc, .ref qj, .ref qe, .ref qs, .ref qm, .int (nI n1), va_rf act, .int ctr])), (qm, .inl (cV, 8, .inr (.inr (.inr (.inr mk))))), (v0, .inr (4, [.int num, .ref v1, .ref v2, .int stt, .int sec, .int lk, .int th, .int sc, .int gset, .int gc])), (qe, .inr (1, [.ref e1, .int z9])), (e1, .inl (cI, 16, .inl bs))] (fun r u => r = -7 ∧ u = [(h, .inr (5, [.ref qc, .ref qj, .ref qe, .ref qs, .ref qm, .int (nI n1), va_rf act, .int ctr])), (qm, .inl (cV, 8, .inr (.inr (.inr (.inr mk))))), (v0, .inr (4, [.int num, .ref v1, .ref v2, .int stt, .int sec, .int lk, .int th, .int sc, .int gset, .int gc])), (qe, .inr (1, [.ref e1, .int z9])), (e1, .inl (cI, 16, .inl bs))]) := by
  intro sz
  refine x_ofW (Qc := fun A => va_Ql _ (xB D A) A) sz (by decide) (Nat.le_of_ble_eq_true rfl) ?_
  intro p e s m args below meth c A ls S hr hlk hnm hw hl
  obtain ⟨hx, hb, hml, hown, hts⟩ := id S
  have hl : lv_has ls 4 [(0, .ref h)] := hl
  refine lv_aload_n hx hb dEV_unwrap_0 rfl (lv_at hl 0 rfl) ?_
  refine x_get S hw (C := REV) (T := TEV) (N := 8) inEV 0 rfl rfl 2 (by decide) xh_1_101 (v := .ref qe) rfl dEV_unwrap_1 ?_
  refine x_getN S hw (C := REN) (T := TEN) (N := 2) inEN 3 rfl rfl 1 (by decide) xh_1_72 (v := .int z9) rfl dEV_unwrap_4 ?_
  refine lv_bipush (v := 9) hx hb dEV_unwrap_7 (by decide) ?_
  refine lv_icmp_eq (tgt := 16) hx hb dEV_unwrap_9 (by decide) (fun h9 => ?_) (fun h9 => absurd hz h9)
  refine lv_aload_n hx hb dEV_unwrap_16 rfl (lv_at hl 0 rfl) ?_
  refine lv_aload_n hx hb dEV_unwrap_17 rfl (lv_at hl 0 rfl) ?_
  refine x_get S hw (C := REV) (T := TEV) (N := 8) inEV 0 rfl rfl 2 (by decide) xh_1_101 (v := .ref qe) rfl dEV_unwrap_18 ?_
  refine lv_iconst (v := 0) hx hb dEV_unwrap_21 (by decide) ?_
  refine lv_iconst (v := 1) hx hb dEV_unwrap_22 (by decide) ?_
  refine x_calliD (ws' := [(h, .inr (5, [.ref qc, .ref qj, .ref qe, .ref qs, .ref qm, .int (nI n1), va_rf act, .int ctr])), (qm, .inl (cV, 8, .inr (.inr (.inr (.inr mk))))), (v0, .inr (4, [.int num, .ref v1, .ref v2, .int stt, .int sec, .int lk, .int th, .int sc, .int gset, .int gc])), (qe, .inr (1, [.ref e1, .int z9])), (e1, .inl (cI, 16, .inl bs))]) hw [3, 4] rfl rfl (x_runV (n := 2) (rest := [.ref h]) (As := [.int 0, .int 1]) S hw (k_number l D cI cZ cV qe e1 bs z9 0 1 (by decide) _) xh_2_100 xh_2_97 xh_2_98 xh_2_99 xh_1_4 (by decide +kernel) ⟨by decide, by decide⟩ [3, 4] rfl rfl (ci := 1) (q0 := 3) rfl rfl rfl hl.1 rfl (Nat.le_of_ble_eq_true rfl) dEV_unwrap_23 ⟨by decide, by decide⟩) rfl rfl (fun H locs hw => ?_)
  refine x_topi (y := nI k0) (hb0) ?_
  refine x_callqD (ws' := [(h, .inr (5, [.ref qc, .ref qj, .ref qe, .ref qs, .ref qm, .int (nI n1), va_rf act, .int ctr])), (qm, .inl (cV, 8, .inr (.inr (.inr (.inr mk))))), (v0, .inr (4, [.int num, .ref v1, .ref v2, .int stt, .int sec, .int lk, .int th, .int sc, .int gset, .int gc])), (qe, .inr (1, [.ref e1, .int z9])), (e1, .inl (cI, 16, .inl bs))]) hw [0, 1] rfl rfl (x_runV (n := 1) (rest := []) (As := [.int (nI k0)]) S hw (k_find_ok l D cI cZ cV h qc qj qe qs qm ctr act n1 mk k0 v0 hm hk _) xh_1_221 xh_1_218 xh_1_220 xsel_EV_find xh_1_1 (by decide +kernel) ⟨by decide, by decide⟩ [0, 1] rfl rfl (ci := 5) (q0 := 0) rfl rfl rfl hl.1 rfl (Nat.le_of_ble_eq_true rfl) dEV_unwrap_26 ⟨by decide, by decide⟩) rfl rfl rfl (fun H locs hw => ?_)
  refine lv_astore_n (lv' := [(1, .ref v0), (0, .ref h)]) hx hb dEV_unwrap_29 rfl hl (by decide) rfl (fun ls hl => ?_)
  refine lv_aload_n hx hb dEV_unwrap_30 rfl (lv_at hl 0 rfl) ?_
  refine lv_ifnonnull (tgt := 38) hx hb dEV_unwrap_31 (by decide) ?_
  refine lv_aload_n hx hb dEV_unwrap_38 rfl (lv_at hl 0 rfl) ?_
  refine x_getN S hw (C := RVE) (T := TVE) (N := 10) inVE 2 rfl rfl 3 (by decide) xh_1_172 (v := .int stt) rfl dEV_unwrap_39 ?_
  refine lv_iconst (v := 3) hx hb dEV_unwrap_42 (by decide) ?_
  refine lv_icmp_ne (tgt := 50) hx hb dEV_unwrap_43 (by decide) (fun h43 => ?_) (fun h43 => absurd h43 hs)
  refine lv_aload_n hx hb dEV_unwrap_50 rfl (lv_at hl 0 rfl) ?_
  refine x_getN S hw (C := RVE) (T := TVE) (N := 10) inVE 2 rfl rfl 5 (by decide) xh_1_176 (v := .int lk) rfl dEV_unwrap_51 ?_
  refine lv_if_eq (tgt := 61) hx hb dEV_unwrap_54 (by decide) (fun h54 => absurd h54 hl9) (fun h54 => ?_)
  refine lv_ldc2 hx hb hown (hts _ xh_2_103) dEV_unwrap_57 ?_
  exact x_lret S hr hlk hw (by decide) (by decide) (⟨rfl, rfl⟩) dEV_unwrap_60

set_option maxHeartbeats 4000000 in
set_option maxRecDepth 100000 in
theorem f_unw_forg (l : Launch) (D : va_G) (cI cZ cV : ClassId) (h : Nat) (qc : Nat) (qj : Nat) (qe : Nat) (qs : Nat) (qm : Nat) (ctr : Int32) (act : Option Nat) (n1 : Nat) (mk : Nat → Option Nat) (k0 : Nat) (v0 : Nat) (v1 : Nat) (v2 : Nat) (num : Int32) (stt : Int32) (sec : Int32) (lk : Int32) (th : Int32) (sc : Int32) (gset : Int32) (gc : Int32) (e1 : Nat) (bs : Nat → Int32) (z9 : Int32) (hm : mk k0 = some v0) (hk : k0 < n1 ∧ n1 ≤ 8) (hz : z9 = 9) (hb0 : nbF bs 0 1 = nI k0) (hs : ¬ stt = 3) (hl9 : lk = 0) (hg : ¬ nbF bs 7 2 = fTag sec (nbF bs 1 2) (nbF bs 3 4)) : XL l yEV_unwrap cEV_unwrap 4 (some .long) D (xT3 cI cZ cV) 2 0 0 [.ref h] [(h, .inr (5, [.ref qc, .ref qj, .ref qe, .ref qs, .ref qm, .int (nI n1), va_rf act, .int ctr])), (qm, .inl (cV, 8, .inr (.inr (.inr (.inr mk))))), (v0, .inr (4, [.int num, .ref v1, .ref v2, .int stt, .int sec, .int lk, .int th, .int sc, .int gset, .int gc])), (qe, .inr (1, [.ref e1, .int z9])), (e1, .inl (cI, 16, .inl bs))] (fun r u => r = -8 ∧ u = [(h, .inr (5, [.ref qc, .ref qj, .ref qe, .ref qs, .ref qm, .int (nI n1), va_rf act, .int ctr])), (qm, .inl (cV, 8, .inr (.inr (.inr (.inr mk))))), (v0, .inr (4, [.int num, .ref v1, .ref v2, .int stt, .int sec, .int lk, .int th, .int sc, .int gset, .int gc])), (qe, .inr (1, [.ref e1, .int z9])), (e1, .inl (cI, 16, .inl bs))]) := by
  intro sz
  refine x_ofW (Qc := fun A => va_Ql _ (xB D A) A) sz (by decide) (Nat.le_of_ble_eq_true rfl) ?_
  intro p e s m args below meth c A ls S hr hlk hnm hw hl
  obtain ⟨hx, hb, hml, hown, hts⟩ := id S
  have hl : lv_has ls 4 [(0, .ref h)] := hl
  refine lv_aload_n hx hb dEV_unwrap_0 rfl (lv_at hl 0 rfl) ?_
  refine x_get S hw (C := REV) (T := TEV) (N := 8) inEV 0 rfl rfl 2 (by decide) xh_1_101 (v := .ref qe) rfl dEV_unwrap_1 ?_
  refine x_getN S hw (C := REN) (T := TEN) (N := 2) inEN 3 rfl rfl 1 (by decide) xh_1_72 (v := .int z9) rfl dEV_unwrap_4 ?_
  refine lv_bipush (v := 9) hx hb dEV_unwrap_7 (by decide) ?_
  refine lv_icmp_eq (tgt := 16) hx hb dEV_unwrap_9 (by decide) (fun h9 => ?_) (fun h9 => absurd hz h9)
  refine lv_aload_n hx hb dEV_unwrap_16 rfl (lv_at hl 0 rfl) ?_
  refine lv_aload_n hx hb dEV_unwrap_17 rfl (lv_at hl 0 rfl) ?_
  refine x_get S hw (C := REV) (T := TEV) (N := 8) inEV 0 rfl rfl 2 (by decide) xh_1_101 (v := .ref qe) rfl dEV_unwrap_18 ?_
  refine lv_iconst (v := 0) hx hb dEV_unwrap_21 (by decide) ?_
  refine lv_iconst (v := 1) hx hb dEV_unwrap_22 (by decide) ?_
  refine x_calliD (ws' := [(h, .inr (5, [.ref qc, .ref qj, .ref qe, .ref qs, .ref qm, .int (nI n1), va_rf act, .int ctr])), (qm, .inl (cV, 8, .inr (.inr (.inr (.inr mk))))), (v0, .inr (4, [.int num, .ref v1, .ref v2, .int stt, .int sec, .int lk, .int th, .int sc, .int gset, .int gc])), (qe, .inr (1, [.ref e1, .int z9])), (e1, .inl (cI, 16, .inl bs))]) hw [3, 4] rfl rfl (x_runV (n := 2) (rest := [.ref h]) (As := [.int 0, .int 1]) S hw (k_number l D cI cZ cV qe e1 bs z9 0 1 (by decide) _) xh_2_100 xh_2_97 xh_2_98 xh_2_99 xh_1_4 (by decide +kernel) ⟨by decide, by decide⟩ [3, 4] rfl rfl (ci := 1) (q0 := 3) rfl rfl rfl hl.1 rfl (Nat.le_of_ble_eq_true rfl) dEV_unwrap_23 ⟨by decide, by decide⟩) rfl rfl (fun H locs hw => ?_)
  refine x_topi (y := nI k0) (hb0) ?_
  refine x_callqD (ws' := [(h, .inr (5, [.ref qc, .ref qj, .ref qe, .ref qs, .ref qm, .int (nI n1), va_rf act, .int ctr])), (qm, .inl (cV, 8, .inr (.inr (.inr (.inr mk))))), (v0, .inr (4, [.int num, .ref v1, .ref v2, .int stt, .int sec, .int lk, .int th, .int sc, .int gset, .int gc])), (qe, .inr (1, [.ref e1, .int z9])), (e1, .inl (cI, 16, .inl bs))]) hw [0, 1] rfl rfl (x_runV (n := 1) (rest := []) (As := [.int (nI k0)]) S hw (k_find_ok l D cI cZ cV h qc qj qe qs qm ctr act n1 mk k0 v0 hm hk _) xh_1_221 xh_1_218 xh_1_220 xsel_EV_find xh_1_1 (by decide +kernel) ⟨by decide, by decide⟩ [0, 1] rfl rfl (ci := 5) (q0 := 0) rfl rfl rfl hl.1 rfl (Nat.le_of_ble_eq_true rfl) dEV_unwrap_26 ⟨by decide, by decide⟩) rfl rfl rfl (fun H locs hw => ?_)
  refine lv_astore_n (lv' := [(1, .ref v0), (0, .ref h)]) hx hb dEV_unwrap_29 rfl hl (by decide) rfl (fun ls hl => ?_)
  refine lv_aload_n hx hb dEV_unwrap_30 rfl (lv_at hl 0 rfl) ?_
  refine lv_ifnonnull (tgt := 38) hx hb dEV_unwrap_31 (by decide) ?_
  refine lv_aload_n hx hb dEV_unwrap_38 rfl (lv_at hl 0 rfl) ?_
  refine x_getN S hw (C := RVE) (T := TVE) (N := 10) inVE 2 rfl rfl 3 (by decide) xh_1_172 (v := .int stt) rfl dEV_unwrap_39 ?_
  refine lv_iconst (v := 3) hx hb dEV_unwrap_42 (by decide) ?_
  refine lv_icmp_ne (tgt := 50) hx hb dEV_unwrap_43 (by decide) (fun h43 => ?_) (fun h43 => absurd h43 hs)
  refine lv_aload_n hx hb dEV_unwrap_50 rfl (lv_at hl 0 rfl) ?_
  refine x_getN S hw (C := RVE) (T := TVE) (N := 10) inVE 2 rfl rfl 5 (by decide) xh_1_176 (v := .int lk) rfl dEV_unwrap_51 ?_
  refine lv_if_eq (tgt := 61) hx hb dEV_unwrap_54 (by decide) (fun h54 => ?_) (fun h54 => absurd hl9 h54)
  refine lv_aload_n hx hb dEV_unwrap_61 rfl (lv_at hl 1 rfl) ?_
  refine x_get S hw (C := REV) (T := TEV) (N := 8) inEV 0 rfl rfl 2 (by decide) xh_1_101 (v := .ref qe) rfl dEV_unwrap_62 ?_
  refine lv_iconst (v := 1) hx hb dEV_unwrap_65 (by decide) ?_
  refine lv_iconst (v := 2) hx hb dEV_unwrap_66 (by decide) ?_
  refine x_calliD (ws' := [(h, .inr (5, [.ref qc, .ref qj, .ref qe, .ref qs, .ref qm, .int (nI n1), va_rf act, .int ctr])), (qm, .inl (cV, 8, .inr (.inr (.inr (.inr mk))))), (v0, .inr (4, [.int num, .ref v1, .ref v2, .int stt, .int sec, .int lk, .int th, .int sc, .int gset, .int gc])), (qe, .inr (1, [.ref e1, .int z9])), (e1, .inl (cI, 16, .inl bs))]) hw [3, 4] rfl rfl (x_runV (n := 2) (rest := []) (As := [.int 1, .int 2]) S hw (k_number l D cI cZ cV qe e1 bs z9 1 2 (by decide) _) xh_2_100 xh_2_97 xh_2_98 xh_2_99 xh_1_4 (by decide +kernel) ⟨by decide, by decide⟩ [3, 4] rfl rfl (ci := 1) (q0 := 3) rfl rfl rfl hl.1 rfl (Nat.le_of_ble_eq_true rfl) dEV_unwrap_67 ⟨by decide, by decide⟩) rfl rfl (fun H locs hw => ?_)
  refine lv_istore_n (lv' := [(2, .int (nbF bs 1 2)), (1, .ref v0), (0, .ref h)]) hx hb dEV_unwrap_70 rfl hl (by decide) rfl (fun ls hl => ?_)
  refine lv_aload_n hx hb dEV_unwrap_71 rfl (lv_at hl 2 rfl) ?_
  refine x_get S hw (C := REV) (T := TEV) (N := 8) inEV 0 rfl rfl 2 (by decide) xh_1_101 (v := .ref qe) rfl dEV_unwrap_72 ?_
  refine lv_iconst (v := 3) hx hb dEV_unwrap_75 (by decide) ?_
  refine lv_iconst (v := 4) hx hb dEV_unwrap_76 (by decide) ?_
  refine x_calliD (ws' := [(h, .inr (5, [.ref qc, .ref qj, .ref qe, .ref qs, .ref qm, .int (nI n1), va_rf act, .int ctr])), (qm, .inl (cV, 8, .inr (.inr (.inr (.inr mk))))), (v0, .inr (4, [.int num, .ref v1, .ref v2, .int stt, .int sec, .int lk, .int th, .int sc, .int gset, .int gc])), (qe, .inr (1, [.ref e1, .int z9])), (e1, .inl (cI, 16, .inl bs))]) hw [3, 4] rfl rfl (x_runV (n := 2) (rest := []) (As := [.int 3, .int 4]) S hw (k_number l D cI cZ cV qe e1 bs z9 3 4 (by decide) _) xh_2_100 xh_2_97 xh_2_98 xh_2_99 xh_1_4 (by decide +kernel) ⟨by decide, by decide⟩ [3, 4] rfl rfl (ci := 1) (q0 := 3) rfl rfl rfl hl.1 rfl (Nat.le_of_ble_eq_true rfl) dEV_unwrap_77 ⟨by decide, by decide⟩) rfl rfl (fun H locs hw => ?_)
  refine lv_istore_n (lv' := [(3, .int (nbF bs 3 4)), (2, .int (nbF bs 1 2)), (1, .ref v0), (0, .ref h)]) hx hb dEV_unwrap_80 rfl hl (by decide) rfl (fun ls hl => ?_)
  refine lv_aload_n hx hb dEV_unwrap_81 rfl (lv_at hl 3 rfl) ?_
  refine x_get S hw (C := REV) (T := TEV) (N := 8) inEV 0 rfl rfl 2 (by decide) xh_1_101 (v := .ref qe) rfl dEV_unwrap_82 ?_
  refine lv_bipush (v := 7) hx hb dEV_unwrap_85 (by decide) ?_
  refine lv_iconst (v := 2) hx hb dEV_unwrap_87 (by decide) ?_
  refine x_calliD (ws' := [(h, .inr (5, [.ref qc, .ref qj, .ref qe, .ref qs, .ref qm, .int (nI n1), va_rf act, .int ctr])), (qm, .inl (cV, 8, .inr (.inr (.inr (.inr mk))))), (v0, .inr (4, [.int num, .ref v1, .ref v2, .int stt, .int sec, .int lk, .int th, .int sc, .int gset, .int gc])), (qe, .inr (1, [.ref e1, .int z9])), (e1, .inl (cI, 16, .inl bs))]) hw [3, 4] rfl rfl (x_runV (n := 2) (rest := []) (As := [.int 7, .int 2]) S hw (k_number l D cI cZ cV qe e1 bs z9 7 2 (by decide) _) xh_2_100 xh_2_97 xh_2_98 xh_2_99 xh_1_4 (by decide +kernel) ⟨by decide, by decide⟩ [3, 4] rfl rfl (ci := 1) (q0 := 3) rfl rfl rfl hl.1 rfl (Nat.le_of_ble_eq_true rfl) dEV_unwrap_88 ⟨by decide, by decide⟩) rfl rfl (fun H locs hw => ?_)
  refine lv_aload_n hx hb dEV_unwrap_91 rfl (lv_at hl 2 rfl) ?_
  refine x_getN S hw (C := RVE) (T := TVE) (N := 10) inVE 2 rfl rfl 4 (by decide) xh_1_174 (v := .int sec) rfl dEV_unwrap_92 ?_
  refine lv_iload_n hx hb dEV_unwrap_95 rfl (lv_at hl 1 rfl) ?_
  refine lv_iload_n hx hb dEV_unwrap_96 rfl (lv_at hl 0 rfl) ?_
  refine x_calliD (ws' := [(h, .inr (5, [.ref qc, .ref qj, .ref qe, .ref qs, .ref qm, .int (nI n1), va_rf act, .int ctr])), (qm, .inl (cV, 8, .inr (.inr (.inr (.inr mk))))), (v0, .inr (4, [.int num, .ref v1, .ref v2, .int stt, .int sec, .int lk, .int th, .int sc, .int gset, .int gc])), (qe, .inr (1, [.ref e1, .int z9])), (e1, .inl (cI, 16, .inl bs))]) hw [] rfl rfl (x_runS (n := 3) (rest := [.int (nbF bs 7 2)]) (As := [.int sec, .int (nbF bs 1 2), .int (nbF bs 3 4)]) S hw (k_tag l D cI cZ cV sec (nbF bs 1 2) (nbF bs 3 4) _) xh_2_90 xh_2_88 xh_2_89 xh_1_1 (by decide +kernel) ⟨by decide, by decide⟩ [] rfl rfl rfl hl.1 rfl (Nat.le_of_ble_eq_true rfl) dEV_unwrap_97 ⟨by decide, by decide⟩) rfl rfl (fun H locs hw => ?_)
  refine lv_icmp_eq (tgt := 107) hx hb dEV_unwrap_100 (by decide) (fun h100 => absurd h100 hg) (fun h100 => ?_)
  refine lv_ldc2 hx hb hown (hts _ xh_2_104) dEV_unwrap_103 ?_
  exact x_lret S hr hlk hw (by decide) (by decide) (⟨rfl, rfl⟩) dEV_unwrap_106

set_option maxHeartbeats 4000000 in
set_option maxRecDepth 100000 in
theorem f_unw_ok (l : Launch) (D : va_G) (cI cZ cV : ClassId) (h : Nat) (qc : Nat) (qj : Nat) (qe : Nat) (qs : Nat) (qm : Nat) (ctr : Int32) (act : Option Nat) (n1 : Nat) (mk : Nat → Option Nat) (k0 : Nat) (v0 : Nat) (v1 : Nat) (v2 : Nat) (num : Int32) (stt : Int32) (sec : Int32) (lk : Int32) (th : Int32) (sc : Int32) (gset : Int32) (gc : Int32) (e1 : Nat) (bs : Nat → Int32) (z9 : Int32) (hm : mk k0 = some v0) (hk : k0 < n1 ∧ n1 ≤ 8) (hz : z9 = 9) (hb0 : nbF bs 0 1 = nI k0) (hs : ¬ stt = 3) (hl9 : lk = 0) (hg : nbF bs 7 2 = fTag sec (nbF bs 1 2) (nbF bs 3 4)) : XL l yEV_unwrap cEV_unwrap 4 (some .long) D (xT3 cI cZ cV) 2 0 0 [.ref h] [(h, .inr (5, [.ref qc, .ref qj, .ref qe, .ref qs, .ref qm, .int (nI n1), va_rf act, .int ctr])), (qm, .inl (cV, 8, .inr (.inr (.inr (.inr mk))))), (v0, .inr (4, [.int num, .ref v1, .ref v2, .int stt, .int sec, .int lk, .int th, .int sc, .int gset, .int gc])), (qe, .inr (1, [.ref e1, .int z9])), (e1, .inl (cI, 16, .inl bs))] (fun r u => r = (nbF bs 3 4 ^^^ fPad sec (nbF bs 1 2)).toInt64 &&& 4294967295 ∧ u = [(h, .inr (5, [.ref qc, .ref qj, .ref qe, .ref qs, .ref qm, .int (nI n1), va_rf act, .int ctr])), (qm, .inl (cV, 8, .inr (.inr (.inr (.inr mk))))), (v0, .inr (4, [.int num, .ref v1, .ref v2, .int stt, .int sec, .int lk, .int th, .int sc, .int gset, .int gc])), (qe, .inr (1, [.ref e1, .int z9])), (e1, .inl (cI, 16, .inl bs))]) := by
  intro sz
  refine x_ofW (Qc := fun A => va_Ql _ (xB D A) A) sz (by decide) (Nat.le_of_ble_eq_true rfl) ?_
  intro p e s m args below meth c A ls S hr hlk hnm hw hl
  obtain ⟨hx, hb, hml, hown, hts⟩ := id S
  have hl : lv_has ls 4 [(0, .ref h)] := hl
  refine lv_aload_n hx hb dEV_unwrap_0 rfl (lv_at hl 0 rfl) ?_
  refine x_get S hw (C := REV) (T := TEV) (N := 8) inEV 0 rfl rfl 2 (by decide) xh_1_101 (v := .ref qe) rfl dEV_unwrap_1 ?_
  refine x_getN S hw (C := REN) (T := TEN) (N := 2) inEN 3 rfl rfl 1 (by decide) xh_1_72 (v := .int z9) rfl dEV_unwrap_4 ?_
  refine lv_bipush (v := 9) hx hb dEV_unwrap_7 (by decide) ?_
  refine lv_icmp_eq (tgt := 16) hx hb dEV_unwrap_9 (by decide) (fun h9 => ?_) (fun h9 => absurd hz h9)
  refine lv_aload_n hx hb dEV_unwrap_16 rfl (lv_at hl 0 rfl) ?_
  refine lv_aload_n hx hb dEV_unwrap_17 rfl (lv_at hl 0 rfl) ?_
  refine x_get S hw (C := REV) (T := TEV) (N := 8) inEV 0 rfl rfl 2 (by decide) xh_1_101 (v := .ref qe) rfl dEV_unwrap_18 ?_
  refine lv_iconst (v := 0) hx hb dEV_unwrap_21 (by decide) ?_
  refine lv_iconst (v := 1) hx hb dEV_unwrap_22 (by decide) ?_
  refine x_calliD (ws' := [(h, .inr (5, [.ref qc, .ref qj, .ref qe, .ref qs, .ref qm, .int (nI n1), va_rf act, .int ctr])), (qm, .inl (cV, 8, .inr (.inr (.inr (.inr mk))))), (v0, .inr (4, [.int num, .ref v1, .ref v2, .int stt, .int sec, .int lk, .int th, .int sc, .int gset, .int gc])), (qe, .inr (1, [.ref e1, .int z9])), (e1, .inl (cI, 16, .inl bs))]) hw [3, 4] rfl rfl (x_runV (n := 2) (rest := [.ref h]) (As := [.int 0, .int 1]) S hw (k_number l D cI cZ cV qe e1 bs z9 0 1 (by decide) _) xh_2_100 xh_2_97 xh_2_98 xh_2_99 xh_1_4 (by decide +kernel) ⟨by decide, by decide⟩ [3, 4] rfl rfl (ci := 1) (q0 := 3) rfl rfl rfl hl.1 rfl (Nat.le_of_ble_eq_true rfl) dEV_unwrap_23 ⟨by decide, by decide⟩) rfl rfl (fun H locs hw => ?_)
  refine x_topi (y := nI k0) (hb0) ?_
  refine x_callqD (ws' := [(h, .inr (5, [.ref qc, .ref qj, .ref qe, .ref qs, .ref qm, .int (nI n1), va_rf act, .int ctr])), (qm, .inl (cV, 8, .inr (.inr (.inr (.inr mk))))), (v0, .inr (4, [.int num, .ref v1, .ref v2, .int stt, .int sec, .int lk, .int th, .int sc, .int gset, .int gc])), (qe, .inr (1, [.ref e1, .int z9])), (e1, .inl (cI, 16, .inl bs))]) hw [0, 1] rfl rfl (x_runV (n := 1) (rest := []) (As := [.int (nI k0)]) S hw (k_find_ok l D cI cZ cV h qc qj qe qs qm ctr act n1 mk k0 v0 hm hk _) xh_1_221 xh_1_218 xh_1_220 xsel_EV_find xh_1_1 (by decide +kernel) ⟨by decide, by decide⟩ [0, 1] rfl rfl (ci := 5) (q0 := 0) rfl rfl rfl hl.1 rfl (Nat.le_of_ble_eq_true rfl) dEV_unwrap_26 ⟨by decide, by decide⟩) rfl rfl rfl (fun H locs hw => ?_)
  refine lv_astore_n (lv' := [(1, .ref v0), (0, .ref h)]) hx hb dEV_unwrap_29 rfl hl (by decide) rfl (fun ls hl => ?_)
  refine lv_aload_n hx hb dEV_unwrap_30 rfl (lv_at hl 0 rfl) ?_
  refine lv_ifnonnull (tgt := 38) hx hb dEV_unwrap_31 (by decide) ?_
  refine lv_aload_n hx hb dEV_unwrap_38 rfl (lv_at hl 0 rfl) ?_
  refine x_getN S hw (C := RVE) (T := TVE) (N := 10) inVE 2 rfl rfl 3 (by decide) xh_1_172 (v := .int stt) rfl dEV_unwrap_39 ?_
  refine lv_iconst (v := 3) hx hb dEV_unwrap_42 (by decide) ?_
  refine lv_icmp_ne (tgt := 50) hx hb dEV_unwrap_43 (by decide) (fun h43 => ?_) (fun h43 => absurd h43 hs)
  refine lv_aload_n hx hb dEV_unwrap_50 rfl (lv_at hl 0 rfl) ?_
  refine x_getN S hw (C := RVE) (T := TVE) (N := 10) inVE 2 rfl rfl 5 (by decide) xh_1_176 (v := .int lk) rfl dEV_unwrap_51 ?_
  refine lv_if_eq (tgt := 61) hx hb dEV_unwrap_54 (by decide) (fun h54 => ?_) (fun h54 => absurd hl9 h54)
  refine lv_aload_n hx hb dEV_unwrap_61 rfl (lv_at hl 1 rfl) ?_
  refine x_get S hw (C := REV) (T := TEV) (N := 8) inEV 0 rfl rfl 2 (by decide) xh_1_101 (v := .ref qe) rfl dEV_unwrap_62 ?_
  refine lv_iconst (v := 1) hx hb dEV_unwrap_65 (by decide) ?_
  refine lv_iconst (v := 2) hx hb dEV_unwrap_66 (by decide) ?_
  refine x_calliD (ws' := [(h, .inr (5, [.ref qc, .ref qj, .ref qe, .ref qs, .ref qm, .int (nI n1), va_rf act, .int ctr])), (qm, .inl (cV, 8, .inr (.inr (.inr (.inr mk))))), (v0, .inr (4, [.int num, .ref v1, .ref v2, .int stt, .int sec, .int lk, .int th, .int sc, .int gset, .int gc])), (qe, .inr (1, [.ref e1, .int z9])), (e1, .inl (cI, 16, .inl bs))]) hw [3, 4] rfl rfl (x_runV (n := 2) (rest := []) (As := [.int 1, .int 2]) S hw (k_number l D cI cZ cV qe e1 bs z9 1 2 (by decide) _) xh_2_100 xh_2_97 xh_2_98 xh_2_99 xh_1_4 (by decide +kernel) ⟨by decide, by decide⟩ [3, 4] rfl rfl (ci := 1) (q0 := 3) rfl rfl rfl hl.1 rfl (Nat.le_of_ble_eq_true rfl) dEV_unwrap_67 ⟨by decide, by decide⟩) rfl rfl (fun H locs hw => ?_)
  refine lv_istore_n (lv' := [(2, .int (nbF bs 1 2)), (1, .ref v0), (0, .ref h)]) hx hb dEV_unwrap_70 rfl hl (by decide) rfl (fun ls hl => ?_)
  refine lv_aload_n hx hb dEV_unwrap_71 rfl (lv_at hl 2 rfl) ?_
  refine x_get S hw (C := REV) (T := TEV) (N := 8) inEV 0 rfl rfl 2 (by decide) xh_1_101 (v := .ref qe) rfl dEV_unwrap_72 ?_
  refine lv_iconst (v := 3) hx hb dEV_unwrap_75 (by decide) ?_
  refine lv_iconst (v := 4) hx hb dEV_unwrap_76 (by decide) ?_
  refine x_calliD (ws' := [(h, .inr (5, [.ref qc, .ref qj, .ref qe, .ref qs, .ref qm, .int (nI n1), va_rf act, .int ctr])), (qm, .inl (cV, 8, .inr (.inr (.inr (.inr mk))))), (v0, .inr (4, [.int num, .ref v1, .ref v2, .int stt, .int sec, .int lk, .int th, .int sc, .int gset, .int gc])), (qe, .inr (1, [.ref e1, .int z9])), (e1, .inl (cI, 16, .inl bs))]) hw [3, 4] rfl rfl (x_runV (n := 2) (rest := []) (As := [.int 3, .int 4]) S hw (k_number l D cI cZ cV qe e1 bs z9 3 4 (by decide) _) xh_2_100 xh_2_97 xh_2_98 xh_2_99 xh_1_4 (by decide +kernel) ⟨by decide, by decide⟩ [3, 4] rfl rfl (ci := 1) (q0 := 3) rfl rfl rfl hl.1 rfl (Nat.le_of_ble_eq_true rfl) dEV_unwrap_77 ⟨by decide, by decide⟩) rfl rfl (fun H locs hw => ?_)
  refine lv_istore_n (lv' := [(3, .int (nbF bs 3 4)), (2, .int (nbF bs 1 2)), (1, .ref v0), (0, .ref h)]) hx hb dEV_unwrap_80 rfl hl (by decide) rfl (fun ls hl => ?_)
  refine lv_aload_n hx hb dEV_unwrap_81 rfl (lv_at hl 3 rfl) ?_
  refine x_get S hw (C := REV) (T := TEV) (N := 8) inEV 0 rfl rfl 2 (by decide) xh_1_101 (v := .ref qe) rfl dEV_unwrap_82 ?_
  refine lv_bipush (v := 7) hx hb dEV_unwrap_85 (by decide) ?_
  refine lv_iconst (v := 2) hx hb dEV_unwrap_87 (by decide) ?_
  refine x_calliD (ws' := [(h, .inr (5, [.ref qc, .ref qj, .ref qe, .ref qs, .ref qm, .int (nI n1), va_rf act, .int ctr])), (qm, .inl (cV, 8, .inr (.inr (.inr (.inr mk))))), (v0, .inr (4, [.int num, .ref v1, .ref v2, .int stt, .int sec, .int lk, .int th, .int sc, .int gset, .int gc])), (qe, .inr (1, [.ref e1, .int z9])), (e1, .inl (cI, 16, .inl bs))]) hw [3, 4] rfl rfl (x_runV (n := 2) (rest := []) (As := [.int 7, .int 2]) S hw (k_number l D cI cZ cV qe e1 bs z9 7 2 (by decide) _) xh_2_100 xh_2_97 xh_2_98 xh_2_99 xh_1_4 (by decide +kernel) ⟨by decide, by decide⟩ [3, 4] rfl rfl (ci := 1) (q0 := 3) rfl rfl rfl hl.1 rfl (Nat.le_of_ble_eq_true rfl) dEV_unwrap_88 ⟨by decide, by decide⟩) rfl rfl (fun H locs hw => ?_)
  refine lv_aload_n hx hb dEV_unwrap_91 rfl (lv_at hl 2 rfl) ?_
  refine x_getN S hw (C := RVE) (T := TVE) (N := 10) inVE 2 rfl rfl 4 (by decide) xh_1_174 (v := .int sec) rfl dEV_unwrap_92 ?_
  refine lv_iload_n hx hb dEV_unwrap_95 rfl (lv_at hl 1 rfl) ?_
  refine lv_iload_n hx hb dEV_unwrap_96 rfl (lv_at hl 0 rfl) ?_
  refine x_calliD (ws' := [(h, .inr (5, [.ref qc, .ref qj, .ref qe, .ref qs, .ref qm, .int (nI n1), va_rf act, .int ctr])), (qm, .inl (cV, 8, .inr (.inr (.inr (.inr mk))))), (v0, .inr (4, [.int num, .ref v1, .ref v2, .int stt, .int sec, .int lk, .int th, .int sc, .int gset, .int gc])), (qe, .inr (1, [.ref e1, .int z9])), (e1, .inl (cI, 16, .inl bs))]) hw [] rfl rfl (x_runS (n := 3) (rest := [.int (nbF bs 7 2)]) (As := [.int sec, .int (nbF bs 1 2), .int (nbF bs 3 4)]) S hw (k_tag l D cI cZ cV sec (nbF bs 1 2) (nbF bs 3 4) _) xh_2_90 xh_2_88 xh_2_89 xh_1_1 (by decide +kernel) ⟨by decide, by decide⟩ [] rfl rfl rfl hl.1 rfl (Nat.le_of_ble_eq_true rfl) dEV_unwrap_97 ⟨by decide, by decide⟩) rfl rfl (fun H locs hw => ?_)
  refine lv_icmp_eq (tgt := 107) hx hb dEV_unwrap_100 (by decide) (fun h100 => ?_) (fun h100 => absurd hg h100)
  refine lv_iload_n hx hb dEV_unwrap_107 rfl (lv_at hl 0 rfl) ?_
  refine lv_aload_n hx hb dEV_unwrap_108 rfl (lv_at hl 2 rfl) ?_
  refine x_getN S hw (C := RVE) (T := TVE) (N := 10) inVE 2 rfl rfl 4 (by decide) xh_1_174 (v := .int sec) rfl dEV_unwrap_109 ?_
  refine lv_iload_n hx hb dEV_unwrap_112 rfl (lv_at hl 1 rfl) ?_
  refine x_calliD (ws' := [(h, .inr (5, [.ref qc, .ref qj, .ref qe, .ref qs, .ref qm, .int (nI n1), va_rf act, .int ctr])), (qm, .inl (cV, 8, .inr (.inr (.inr (.inr mk))))), (v0, .inr (4, [.int num, .ref v1, .ref v2, .int stt, .int sec, .int lk, .int th, .int sc, .int gset, .int gc])), (qe, .inr (1, [.ref e1, .int z9])), (e1, .inl (cI, 16, .inl bs))]) hw [] rfl rfl (x_runS (n := 2) (rest := [.int (nbF bs 3 4)]) (As := [.int sec, .int (nbF bs 1 2)]) S hw (k_pad l D cI cZ cV sec (nbF bs 1 2) _) xh_2_78 xh_2_76 xh_2_77 xh_1_1 (by decide +kernel) ⟨by decide, by decide⟩ [] rfl rfl rfl hl.1 rfl (Nat.le_of_ble_eq_true rfl) dEV_unwrap_113 ⟨by decide, by decide⟩) rfl rfl (fun H locs hw => ?_)
  refine lv_ixor hx hb dEV_unwrap_116 ?_
  refine lv_i2l (v := (nbF bs 3 4 ^^^ (fPad sec (nbF bs 1 2))).toInt64) hx hb dEV_unwrap_117 rfl ?_
  refine lv_ldc2 hx hb hown (hts _ xh_2_105) dEV_unwrap_118 ?_
  refine lv_land hx hb dEV_unwrap_121 ?_
  exact x_lret S hr hlk hw (by decide) (by decide) (⟨rfl, rfl⟩) dEV_unwrap_122

set_option maxHeartbeats 4000000 in
set_option maxRecDepth 100000 in
theorem f_set_no (l : Launch) (D : va_G) (cI cZ cV : ClassId) (h : Nat) (qc : Nat) (qj : Nat) (qe : Nat) (qs : Nat) (qm : Nat) (mc : Int32) (ctr : Int32) (act : Option Nat) (e1 : Nat) (bs : Nat → Int32) (z0 : Nat) (k : Int32) (b : Int32) (hk : k < 0 ∨ nI z0 < k ∨ 16 ≤ k ∨ fIsB b = 0) : XI l yEV_set cEV_set 3 (some .boolean) D (xT3 cI cZ cV) 2 0 0 [.ref h, .int k, .int b] [(h, .inr (5, [.ref qc, .ref qj, .ref qe, .ref qs, .ref qm, .int mc, va_rf act, .int ctr])), (qe, .inr (1, [.ref e1, .int (nI z0)])), (e1, .inl (cI, 16, .inl bs))] (fun r u => r = 0 ∧ u = [(h, .inr (5, [.ref qc, .ref qj, .ref qe, .ref qs, .ref qm, .int mc, va_rf act, .int ctr])), (qe, .inr (1, [.ref e1, .int (nI z0)])), (e1, .inl (cI, 16, .inl bs))]) := by
  intro sz
  refine x_ofW (Qc := fun A => va_Qi _ (xB D A) A) sz (by decide) (Nat.le_of_ble_eq_true rfl) ?_
  intro p e s m args below meth c A ls S hr hlk hnm hw hl
  obtain ⟨hx, hb, hml, hown, hts⟩ := id S
  have hl : lv_has ls 3 [(0, .ref h), (1, .int k), (2, .int b)] := hl
  refine lv_aload_n hx hb dEV_set_0 rfl (lv_at hl 0 rfl) ?_
  refine x_get S hw (C := REV) (T := TEV) (N := 8) inEV 0 rfl rfl 2 (by decide) xh_1_101 (v := .ref qe) rfl dEV_set_1 ?_
  refine lv_iload_n hx hb dEV_set_4 rfl (lv_at hl 1 rfl) ?_
  refine lv_iload_n hx hb dEV_set_5 rfl (lv_at hl 2 rfl) ?_
  refine x_calliD (ws' := [(h, .inr (5, [.ref qc, .ref qj, .ref qe, .ref qs, .ref qm, .int mc, va_rf act, .int ctr])), (qe, .inr (1, [.ref e1, .int (nI z0)])), (e1, .inl (cI, 16, .inl bs))]) hw [1, 2] rfl rfl (x_runV (n := 2) (rest := []) (As := [.int k, .int b]) S hw (k_put_no l D cI cZ cV qe e1 bs z0 k b hk _) xh_2_86 xh_2_110 xh_2_84 xh_2_85 xh_1_4 (by decide +kernel) ⟨by decide, by decide⟩ [1, 2] rfl rfl (ci := 1) (q0 := 1) rfl rfl rfl hl.1 rfl (Nat.le_of_ble_eq_true rfl) dEV_set_6 ⟨by decide, by decide⟩) rfl rfl (fun H locs hw => ?_)
  exact x_zret S hr hlk hw (by decide) (by decide) rfl (⟨rfl, rfl⟩) dEV_set_9

set_option maxHeartbeats 4000000 in
set_option maxRecDepth 100000 in
theorem f_set_in (l : Launch) (D : va_G) (cI cZ cV : ClassId) (h : Nat) (qc : Nat) (qj : Nat) (qe : Nat) (qs : Nat) (qm : Nat) (mc : Int32) (ctr : Int32) (act : Option Nat) (e1 : Nat) (bs : Nat → Int32) (z0 : Nat) (j : Nat) (b : Int32) (hj : j < z0) (hz : z0 ≤ 16) (hby : ¬ fIsB b = 0) : XI l yEV_set cEV_set 3 (some .boolean) D (xT3 cI cZ cV) 2 0 0 [.ref h, .int (nI j), .int b] [(h, .inr (5, [.ref qc, .ref qj, .ref qe, .ref qs, .ref qm, .int mc, va_rf act, .int ctr])), (qe, .inr (1, [.ref e1, .int (nI z0)])), (e1, .inl (cI, 16, .inl bs))] (fun r u => r = 1 ∧ u = [(h, .inr (5, [.ref qc, .ref qj, .ref qe, .ref qs, .ref qm, .int mc, va_rf act, .int ctr])), (qe, .inr (1, [.ref e1, .int (nI z0)])), (e1, .inl (cI, 16, .inl (upd bs j b)))]) := by
  intro sz
  refine x_ofW (Qc := fun A => va_Qi _ (xB D A) A) sz (by decide) (Nat.le_of_ble_eq_true rfl) ?_
  intro p e s m args below meth c A ls S hr hlk hnm hw hl
  obtain ⟨hx, hb, hml, hown, hts⟩ := id S
  have hl : lv_has ls 3 [(0, .ref h), (1, .int (nI j)), (2, .int b)] := hl
  refine lv_aload_n hx hb dEV_set_0 rfl (lv_at hl 0 rfl) ?_
  refine x_get S hw (C := REV) (T := TEV) (N := 8) inEV 0 rfl rfl 2 (by decide) xh_1_101 (v := .ref qe) rfl dEV_set_1 ?_
  refine lv_iload_n hx hb dEV_set_4 rfl (lv_at hl 1 rfl) ?_
  refine lv_iload_n hx hb dEV_set_5 rfl (lv_at hl 2 rfl) ?_
  refine x_calliD (ws' := [(h, .inr (5, [.ref qc, .ref qj, .ref qe, .ref qs, .ref qm, .int mc, va_rf act, .int ctr])), (qe, .inr (1, [.ref e1, .int (nI z0)])), (e1, .inl (cI, 16, .inl (upd bs j b)))]) hw [1, 2] rfl rfl (x_runV (n := 2) (rest := []) (As := [.int (nI j), .int b]) S hw (k_put_in l D cI cZ cV qe e1 bs z0 j b hj hz hby _) xh_2_86 xh_2_110 xh_2_84 xh_2_85 xh_1_4 (by decide +kernel) ⟨by decide, by decide⟩ [1, 2] rfl rfl (ci := 1) (q0 := 1) rfl rfl rfl hl.1 rfl (Nat.le_of_ble_eq_true rfl) dEV_set_6 ⟨by decide, by decide⟩) rfl rfl (fun H locs hw => ?_)
  exact x_zret S hr hlk hw (by decide) (by decide) rfl (⟨rfl, rfl⟩) dEV_set_9

set_option maxHeartbeats 4000000 in
set_option maxRecDepth 100000 in
theorem f_set_end (l : Launch) (D : va_G) (cI cZ cV : ClassId) (h : Nat) (qc : Nat) (qj : Nat) (qe : Nat) (qs : Nat) (qm : Nat) (mc : Int32) (ctr : Int32) (act : Option Nat) (e1 : Nat) (bs : Nat → Int32) (z0 : Nat) (b : Int32) (hz : z0 < 16) (hby : ¬ fIsB b = 0) : XI l yEV_set cEV_set 3 (some .boolean) D (xT3 cI cZ cV) 2 0 0 [.ref h, .int (nI z0), .int b] [(h, .inr (5, [.ref qc, .ref qj, .ref qe, .ref qs, .ref qm, .int mc, va_rf act, .int ctr])), (qe, .inr (1, [.ref e1, .int (nI z0)])), (e1, .inl (cI, 16, .inl bs))] (fun r u => r = 1 ∧ u = [(h, .inr (5, [.ref qc, .ref qj, .ref qe, .ref qs, .ref qm, .int mc, va_rf act, .int ctr])), (qe, .inr (1, [.ref e1, .int (nI (z0 + 1))])), (e1, .inl (cI, 16, .inl (upd bs z0 b)))]) := by
  intro sz
  refine x_ofW (Qc := fun A => va_Qi _ (xB D A) A) sz (by decide) (Nat.le_of_ble_eq_true rfl) ?_
  intro p e s m args below meth c A ls S hr hlk hnm hw hl
  obtain ⟨hx, hb, hml, hown, hts⟩ := id S
  have hl : lv_has ls 3 [(0, .ref h), (1, .int (nI z0)), (2, .int b)] := hl
  refine lv_aload_n hx hb dEV_set_0 rfl (lv_at hl 0 rfl) ?_
  refine x_get S hw (C := REV) (T := TEV) (N := 8) inEV 0 rfl rfl 2 (by decide) xh_1_101 (v := .ref qe) rfl dEV_set_1 ?_
  refine lv_iload_n hx hb dEV_set_4 rfl (lv_at hl 1 rfl) ?_
  refine lv_iload_n hx hb dEV_set_5 rfl (lv_at hl 2 rfl) ?_
  refine x_calliD (ws' := [(h, .inr (5, [.ref qc, .ref qj, .ref qe, .ref qs, .ref qm, .int mc, va_rf act, .int ctr])), (qe, .inr (1, [.ref e1, .int (nI (z0 + 1))])), (e1, .inl (cI, 16, .inl (upd bs z0 b)))]) hw [1, 2] rfl rfl (x_runV (n := 2) (rest := []) (As := [.int (nI z0), .int b]) S hw (k_put_end l D cI cZ cV qe e1 bs z0 b hz hby _) xh_2_86 xh_2_110 xh_2_84 xh_2_85 xh_1_4 (by decide +kernel) ⟨by decide, by decide⟩ [1, 2] rfl rfl (ci := 1) (q0 := 1) rfl rfl rfl hl.1 rfl (Nat.le_of_ble_eq_true rfl) dEV_set_6 ⟨by decide, by decide⟩) rfl rfl (fun H locs hw => ?_)
  exact x_zret S hr hlk hw (by decide) (by decide) rfl (⟨rfl, rfl⟩) dEV_set_9

set_option maxHeartbeats 4000000 in
set_option maxRecDepth 100000 in
theorem f_tri_no (l : Launch) (D : va_G) (cI cZ cV : ClassId) (h : Nat) (qc : Nat) (qj : Nat) (qe : Nat) (qs : Nat) (qm : Nat) (mc : Int32) (ctr : Int32) (act : Option Nat) (e1 : Nat) (bs : Nat → Int32) (z9 : Int32) (k : Int32) (hv : k < 0 ∨ z9 < k) : XI l yEV_trim cEV_trim 2 (some .boolean) D (xT3 cI cZ cV) 0 0 0 [.ref h, .int k] [(h, .inr (5, [.ref qc, .ref qj, .ref qe, .ref qs, .ref qm, .int mc, va_rf act, .int ctr])), (qe, .inr (1, [.ref e1, .int z9])), (e1, .inl (cI, 16, .inl bs))] (fun r u => r = 0 ∧ u = [(h, .inr (5, [.ref qc, .ref qj, .ref qe, .ref qs, .ref qm, .int mc, va_rf act, .int ctr])), (qe, .inr (1, [.ref e1, .int z9])), (e1, .inl (cI, 16, .inl bs))]) := by
  intro sz
  refine x_ofW (Qc := fun A => va_Qi _ (xB D A) A) sz (by decide) (Nat.le_of_ble_eq_true rfl) ?_
  intro p e s m args below meth c A ls S hr hlk hnm hw hl
  obtain ⟨hx, hb, hml, hown, hts⟩ := id S
  have hl : lv_has ls 2 [(0, .ref h), (1, .int k)] := hl
  refine lv_iload_n hx hb dEV_trim_0 rfl (lv_at hl 1 rfl) ?_
  refine lv_if_lt (tgt := 15) hx hb dEV_trim_1 (by decide) (fun h1 => ?_) (fun h1 => ?_)
  · skip
    refine lv_iconst (v := 0) hx hb dEV_trim_15 (by decide) ?_
    exact x_zret S hr hlk hw (by decide) (by decide) rfl (⟨rfl, rfl⟩) dEV_trim_16
  refine lv_iload_n hx hb dEV_trim_4 rfl (lv_at hl 1 rfl) ?_
  refine lv_aload_n hx hb dEV_trim_5 rfl (lv_at hl 0 rfl) ?_
  refine x_get S hw (C := REV) (T := TEV) (N := 8) inEV 0 rfl rfl 2 (by decide) xh_1_101 (v := .ref qe) rfl dEV_trim_6 ?_
  refine x_getN S hw (C := REN) (T := TEN) (N := 2) inEN 1 rfl rfl 1 (by decide) xh_1_72 (v := .int z9) rfl dEV_trim_9 ?_
  refine lv_icmp_le (tgt := 17) hx hb dEV_trim_12 (by decide) (fun h12 => ?_) (fun h12 => ?_)
  · skip
    exact False.elim (by rcases hv with h | h; exact h1 h; exact Int32.not_lt.mpr h12 h)
  refine lv_iconst (v := 0) hx hb dEV_trim_15 (by decide) ?_
  exact x_zret S hr hlk hw (by decide) (by decide) rfl (⟨rfl, rfl⟩) dEV_trim_16

set_option maxHeartbeats 4000000 in
set_option maxRecDepth 100000 in
theorem f_tri_ok (l : Launch) (D : va_G) (cI cZ cV : ClassId) (h : Nat) (qc : Nat) (qj : Nat) (qe : Nat) (qs : Nat) (qm : Nat) (mc : Int32) (ctr : Int32) (act : Option Nat) (e1 : Nat) (bs : Nat → Int32) (z0 : Nat) (j : Nat) (hj : j ≤ z0 ∧ z0 ≤ 16) : XI l yEV_trim cEV_trim 2 (some .boolean) D (xT3 cI cZ cV) 0 0 0 [.ref h, .int (nI j)] [(h, .inr (5, [.ref qc, .ref qj, .ref qe, .ref qs, .ref qm, .int mc, va_rf act, .int ctr])), (qe, .inr (1, [.ref e1, .int (nI z0)])), (e1, .inl (cI, 16, .inl bs))] (fun r u => r = 1 ∧ u = [(h, .inr (5, [.ref qc, .ref qj, .ref qe, .ref qs, .ref qm, .int mc, va_rf act, .int ctr])), (qe, .inr (1, [.ref e1, .int (nI j)])), (e1, .inl (cI, 16, .inl bs))]) := by
  intro sz
  refine x_ofW (Qc := fun A => va_Qi _ (xB D A) A) sz (by decide) (Nat.le_of_ble_eq_true rfl) ?_
  intro p e s m args below meth c A ls S hr hlk hnm hw hl
  obtain ⟨hx, hb, hml, hown, hts⟩ := id S
  have hl : lv_has ls 2 [(0, .ref h), (1, .int (nI j))] := hl
  refine lv_iload_n hx hb dEV_trim_0 rfl (lv_at hl 1 rfl) ?_
  refine lv_if_lt (tgt := 15) hx hb dEV_trim_1 (by decide) (fun h1 => absurd h1 (nI_pos (by omega))) (fun h1 => ?_)
  refine lv_iload_n hx hb dEV_trim_4 rfl (lv_at hl 1 rfl) ?_
  refine lv_aload_n hx hb dEV_trim_5 rfl (lv_at hl 0 rfl) ?_
  refine x_get S hw (C := REV) (T := TEV) (N := 8) inEV 0 rfl rfl 2 (by decide) xh_1_101 (v := .ref qe) rfl dEV_trim_6 ?_
  refine x_getN S hw (C := REN) (T := TEN) (N := 2) inEN 1 rfl rfl 1 (by decide) xh_1_72 (v := .int (nI z0)) rfl dEV_trim_9 ?_
  refine lv_icmp_le (tgt := 17) hx hb dEV_trim_12 (by decide) (fun h12 => ?_) (fun h12 => absurd (nI_le (by omega) (by omega)) h12)
  refine lv_aload_n hx hb dEV_trim_17 rfl (lv_at hl 0 rfl) ?_
  refine x_get S hw (C := REV) (T := TEV) (N := 8) inEV 0 rfl rfl 2 (by decide) xh_1_101 (v := .ref qe) rfl dEV_trim_18 ?_
  refine lv_iload_n hx hb dEV_trim_21 rfl (lv_at hl 1 rfl) ?_
  refine x_putN S hw (C := REN) (T := TEN) (N := 2) inEN tyEN tyEN_ok nmEN 1 rfl rfl 1 (by decide) xh_1_72 rfl (v := .int (nI j)) rfl rfl (Nat.le_of_ble_eq_true rfl) (ws' := [(h, .inr (5, [.ref qc, .ref qj, .ref qe, .ref qs, .ref qm, .int mc, va_rf act, .int ctr])), (qe, .inr (1, [.ref e1, .int (nI j)])), (e1, .inl (cI, 16, .inl bs))]) rfl dEV_trim_22 (fun H locs hw => ?_)
  refine lv_iconst (v := 1) hx hb dEV_trim_25 (by decide) ?_
  exact x_zret S hr hlk hw (by decide) (by decide) rfl (⟨rfl, rfl⟩) dEV_trim_26

set_option maxHeartbeats 4000000 in
set_option maxRecDepth 100000 in
theorem f_byt_no (l : Launch) (D : va_G) (cI cZ cV : ClassId) (h : Nat) (qc : Nat) (qj : Nat) (qe : Nat) (qs : Nat) (qm : Nat) (mc : Int32) (ctr : Int32) (act : Option Nat) (e1 : Nat) (bs : Nat → Int32) (z9 : Int32) (k : Int32) (hv : k < 0 ∨ z9 ≤ k) : XI l yEV_byteAt cEV_byteAt 2 (some .int) D (xT3 cI cZ cV) 0 0 0 [.ref h, .int k] [(h, .inr (5, [.ref qc, .ref qj, .ref qe, .ref qs, .ref qm, .int mc, va_rf act, .int ctr])), (qe, .inr (1, [.ref e1, .int z9])), (e1, .inl (cI, 16, .inl bs))] (fun r u => r = -1 ∧ u = [(h, .inr (5, [.ref qc, .ref qj, .ref qe, .ref qs, .ref qm, .int mc, va_rf act, .int ctr])), (qe, .inr (1, [.ref e1, .int z9])), (e1, .inl (cI, 16, .inl bs))]) := by
  intro sz
  refine x_ofW (Qc := fun A => va_Qi _ (xB D A) A) sz (by decide) (Nat.le_of_ble_eq_true rfl) ?_
  intro p e s m args below meth c A ls S hr hlk hnm hw hl
  obtain ⟨hx, hb, hml, hown, hts⟩ := id S
  have hl : lv_has ls 2 [(0, .ref h), (1, .int k)] := hl
  refine lv_iload_n hx hb dEV_byteAt_0 rfl (lv_at hl 1 rfl) ?_
  refine lv_if_lt (tgt := 15) hx hb dEV_byteAt_1 (by decide) (fun h1 => ?_) (fun h1 => ?_)
  · skip
    refine lv_iconst (v := (-1)) hx hb dEV_byteAt_15 (by decide) ?_
    exact x_iret S hr hlk hw (by decide) (by decide) (⟨rfl, rfl⟩) dEV_byteAt_16
  refine lv_iload_n hx hb dEV_byteAt_4 rfl (lv_at hl 1 rfl) ?_
  refine lv_aload_n hx hb dEV_byteAt_5 rfl (lv_at hl 0 rfl) ?_
  refine x_get S hw (C := REV) (T := TEV) (N := 8) inEV 0 rfl rfl 2 (by decide) xh_1_101 (v := .ref qe) rfl dEV_byteAt_6 ?_
  refine x_getN S hw (C := REN) (T := TEN) (N := 2) inEN 1 rfl rfl 1 (by decide) xh_1_72 (v := .int z9) rfl dEV_byteAt_9 ?_
  refine lv_icmp_lt (tgt := 17) hx hb dEV_byteAt_12 (by decide) (fun h12 => ?_) (fun h12 => ?_)
  · skip
    exact False.elim (by rcases hv with h | h; exact h1 h; exact Int32.not_lt.mpr h h12)
  refine lv_iconst (v := (-1)) hx hb dEV_byteAt_15 (by decide) ?_
  exact x_iret S hr hlk hw (by decide) (by decide) (⟨rfl, rfl⟩) dEV_byteAt_16

set_option maxHeartbeats 4000000 in
set_option maxRecDepth 100000 in
theorem f_byt_ok (l : Launch) (D : va_G) (cI cZ cV : ClassId) (h : Nat) (qc : Nat) (qj : Nat) (qe : Nat) (qs : Nat) (qm : Nat) (mc : Int32) (ctr : Int32) (act : Option Nat) (e1 : Nat) (bs : Nat → Int32) (z0 : Nat) (j : Nat) (hj : j < z0 ∧ z0 ≤ 16) : XI l yEV_byteAt cEV_byteAt 2 (some .int) D (xT3 cI cZ cV) 0 0 0 [.ref h, .int (nI j)] [(h, .inr (5, [.ref qc, .ref qj, .ref qe, .ref qs, .ref qm, .int mc, va_rf act, .int ctr])), (qe, .inr (1, [.ref e1, .int (nI z0)])), (e1, .inl (cI, 16, .inl bs))] (fun r u => r = bs j ∧ u = [(h, .inr (5, [.ref qc, .ref qj, .ref qe, .ref qs, .ref qm, .int mc, va_rf act, .int ctr])), (qe, .inr (1, [.ref e1, .int (nI z0)])), (e1, .inl (cI, 16, .inl bs))]) := by
  intro sz
  refine x_ofW (Qc := fun A => va_Qi _ (xB D A) A) sz (by decide) (Nat.le_of_ble_eq_true rfl) ?_
  intro p e s m args below meth c A ls S hr hlk hnm hw hl
  obtain ⟨hx, hb, hml, hown, hts⟩ := id S
  have hl : lv_has ls 2 [(0, .ref h), (1, .int (nI j))] := hl
  refine lv_iload_n hx hb dEV_byteAt_0 rfl (lv_at hl 1 rfl) ?_
  refine lv_if_lt (tgt := 15) hx hb dEV_byteAt_1 (by decide) (fun h1 => absurd h1 (nI_pos (by omega))) (fun h1 => ?_)
  refine lv_iload_n hx hb dEV_byteAt_4 rfl (lv_at hl 1 rfl) ?_
  refine lv_aload_n hx hb dEV_byteAt_5 rfl (lv_at hl 0 rfl) ?_
  refine x_get S hw (C := REV) (T := TEV) (N := 8) inEV 0 rfl rfl 2 (by decide) xh_1_101 (v := .ref qe) rfl dEV_byteAt_6 ?_
  refine x_getN S hw (C := REN) (T := TEN) (N := 2) inEN 1 rfl rfl 1 (by decide) xh_1_72 (v := .int (nI z0)) rfl dEV_byteAt_9 ?_
  refine lv_icmp_lt (tgt := 17) hx hb dEV_byteAt_12 (by decide) (fun h12 => ?_) (fun h12 => absurd (nI_lt (by omega) (by omega)) h12)
  refine lv_aload_n hx hb dEV_byteAt_17 rfl (lv_at hl 0 rfl) ?_
  refine x_get S hw (C := REV) (T := TEV) (N := 8) inEV 0 rfl rfl 2 (by decide) xh_1_101 (v := .ref qe) rfl dEV_byteAt_18 ?_
  refine x_getN S hw (C := REN) (T := TEN) (N := 2) inEN 1 rfl rfl 0 (by decide) xh_1_70 (v := .ref e1) rfl dEV_byteAt_21 ?_
  refine lv_iload_n hx hb dEV_byteAt_24 rfl (lv_at hl 1 rfl) ?_
  refine x_iald S hw 2 0 rfl rfl (j := j) (vp_in_nI (by omega) (by omega)) (nI_clamp (by omega)) dEV_byteAt_25 ?_
  exact x_iret S hr hlk hw (by decide) (by decide) (⟨rfl, rfl⟩) dEV_byteAt_26

set_option maxHeartbeats 4000000 in
set_option maxRecDepth 100000 in
theorem f_length (l : Launch) (D : va_G) (cI cZ cV : ClassId) (h : Nat) (qc : Nat) (qj : Nat) (qe : Nat) (qs : Nat) (qm : Nat) (mc : Int32) (ctr : Int32) (act : Option Nat) (e1 : Nat) (bs : Nat → Int32) (z9 : Int32) : XI l yEV_length cEV_length 1 (some .int) D (xT3 cI cZ cV) 0 0 0 [.ref h] [(h, .inr (5, [.ref qc, .ref qj, .ref qe, .ref qs, .ref qm, .int mc, va_rf act, .int ctr])), (qe, .inr (1, [.ref e1, .int z9])), (e1, .inl (cI, 16, .inl bs))] (fun r u => r = z9 ∧ u = [(h, .inr (5, [.ref qc, .ref qj, .ref qe, .ref qs, .ref qm, .int mc, va_rf act, .int ctr])), (qe, .inr (1, [.ref e1, .int z9])), (e1, .inl (cI, 16, .inl bs))]) := by
  intro sz
  refine x_ofW (Qc := fun A => va_Qi _ (xB D A) A) sz (by decide) (Nat.le_of_ble_eq_true rfl) ?_
  intro p e s m args below meth c A ls S hr hlk hnm hw hl
  obtain ⟨hx, hb, hml, hown, hts⟩ := id S
  have hl : lv_has ls 1 [(0, .ref h)] := hl
  refine lv_aload_n hx hb dEV_length_0 rfl (lv_at hl 0 rfl) ?_
  refine x_get S hw (C := REV) (T := TEV) (N := 8) inEV 0 rfl rfl 2 (by decide) xh_1_101 (v := .ref qe) rfl dEV_length_1 ?_
  refine x_getN S hw (C := REN) (T := TEN) (N := 2) inEN 1 rfl rfl 1 (by decide) xh_1_72 (v := .int z9) rfl dEV_length_4 ?_
  exact x_iret S hr hlk hw (by decide) (by decide) (⟨rfl, rfl⟩) dEV_length_7

set_option maxHeartbeats 4000000 in
set_option maxRecDepth 100000 in
theorem f_ver_no (l : Launch) (D : va_G) (cI cZ cV : ClassId) (h : Nat) (qc : Nat) (qj : Nat) (qe : Nat) (qs : Nat) (qm : Nat) (mc : Int32) (ctr : Int32) (act : Option Nat) (v : Int32) (t : Int32) (hv : v < 0 ∨ mc ≤ v) : XI l yEV_version cEV_version 4 (some .int) D (xT3 cI cZ cV) 1 0 0 [.ref h, .int v, .int t] [(h, .inr (5, [.ref qc, .ref qj, .ref qe, .ref qs, .ref qm, .int mc, va_rf act, .int ctr]))] (fun r u => r = -1 ∧ u = [(h, .inr (5, [.ref qc, .ref qj, .ref qe, .ref qs, .ref qm, .int mc, va_rf act, .int ctr]))]) := by
  intro sz
  refine x_ofW (Qc := fun A => va_Qi _ (xB D A) A) sz (by decide) (Nat.le_of_ble_eq_true rfl) ?_
  intro p e s m args below meth c A ls S hr hlk hnm hw hl
  obtain ⟨hx, hb, hml, hown, hts⟩ := id S
  have hl : lv_has ls 4 [(0, .ref h), (1, .int v), (2, .int t)] := hl
  refine lv_aload_n hx hb dEV_version_0 rfl (lv_at hl 0 rfl) ?_
  refine lv_iload_n hx hb dEV_version_1 rfl (lv_at hl 1 rfl) ?_
  refine x_callqD (ws' := [(h, .inr (5, [.ref qc, .ref qj, .ref qe, .ref qs, .ref qm, .int mc, va_rf act, .int ctr]))]) hw [0] rfl rfl (x_runV (n := 1) (rest := []) (As := [.int v]) S hw (k_find_no l D cI cZ cV h qc qj qe qs qm mc ctr act v hv _) xh_1_221 xh_1_218 xh_1_220 xsel_EV_find xh_1_1 (by decide +kernel) ⟨by decide, by decide⟩ [0] rfl rfl (ci := 5) (q0 := 0) rfl rfl rfl hl.1 rfl (Nat.le_of_ble_eq_true rfl) dEV_version_2 ⟨by decide, by decide⟩) rfl rfl rfl (fun H locs hw => ?_)
  refine lv_astore_nN (lv' := [(3, .null), (0, .ref h), (1, .int v), (2, .int t)]) hx hb dEV_version_5 rfl hl (by decide) rfl (fun ls hl => ?_)
  refine lv_aload_nN hx hb dEV_version_6 rfl (lv_at hl 0 rfl) ?_
  refine lv_ifnonnullN hx hb dEV_version_7 ?_
  refine lv_iconst (v := (-1)) hx hb dEV_version_10 (by decide) ?_
  exact x_iret S hr hlk hw (by decide) (by decide) (⟨rfl, rfl⟩) dEV_version_11

set_option maxHeartbeats 4000000 in
set_option maxRecDepth 100000 in
theorem f_ver_out (l : Launch) (D : va_G) (cI cZ cV : ClassId) (h : Nat) (qc : Nat) (qj : Nat) (qe : Nat) (qs : Nat) (qm : Nat) (ctr : Int32) (act : Option Nat) (n1 : Nat) (mk : Nat → Option Nat) (k0 : Nat) (v0 : Nat) (v1 : Nat) (v2 : Nat) (num : Int32) (stt : Int32) (sec : Int32) (lk : Int32) (th : Int32) (sc : Int32) (gset : Int32) (gc : Int32) (t : Int32) (hm : mk k0 = some v0) (hk : k0 < n1 ∧ n1 ≤ 8) (ht : t.toInt < 0 ∨ 3 < t.toInt) : XI l yEV_version cEV_version 4 (some .int) D (xT3 cI cZ cV) 1 0 0 [.ref h, .int (nI k0), .int t] [(h, .inr (5, [.ref qc, .ref qj, .ref qe, .ref qs, .ref qm, .int (nI n1), va_rf act, .int ctr])), (qm, .inl (cV, 8, .inr (.inr (.inr (.inr mk))))), (v0, .inr (4, [.int num, .ref v1, .ref v2, .int stt, .int sec, .int lk, .int th, .int sc, .int gset, .int gc]))] (fun r u => r = -1 ∧ u = [(h, .inr (5, [.ref qc, .ref qj, .ref qe, .ref qs, .ref qm, .int (nI n1), va_rf act, .int ctr])), (qm, .inl (cV, 8, .inr (.inr (.inr (.inr mk))))), (v0, .inr (4, [.int num, .ref v1, .ref v2, .int stt, .int sec, .int lk, .int th, .int sc, .int gset, .int gc]))]) := by
  intro sz
  refine x_ofW (Qc := fun A => va_Qi _ (xB D A) A) sz (by decide) (Nat.le_of_ble_eq_true rfl) ?_
  intro p e s m args below meth c A ls S hr hlk hnm hw hl
  obtain ⟨hx, hb, hml, hown, hts⟩ := id S
  have hl : lv_has ls 4 [(0, .ref h), (1, .int (nI k0)), (2, .int t)] := hl
  refine lv_aload_n hx hb dEV_version_0 rfl (lv_at hl 0 rfl) ?_
  refine lv_iload_n hx hb dEV_version_1 rfl (lv_at hl 1 rfl) ?_
  refine x_callqD (ws' := [(h, .inr (5, [.ref qc, .ref qj, .ref qe, .ref qs, .ref qm, .int (nI n1), va_rf act, .int ctr])), (qm, .inl (cV, 8, .inr (.inr (.inr (.inr mk))))), (v0, .inr (4, [.int num, .ref v1, .ref v2, .int stt, .int sec, .int lk, .int th, .int sc, .int gset, .int gc]))]) hw [0, 1] rfl rfl (x_runV (n := 1) (rest := []) (As := [.int (nI k0)]) S hw (k_find_ok l D cI cZ cV h qc qj qe qs qm ctr act n1 mk k0 v0 hm hk _) xh_1_221 xh_1_218 xh_1_220 xsel_EV_find xh_1_1 (by decide +kernel) ⟨by decide, by decide⟩ [0, 1] rfl rfl (ci := 5) (q0 := 0) rfl rfl rfl hl.1 rfl (Nat.le_of_ble_eq_true rfl) dEV_version_2 ⟨by decide, by decide⟩) rfl rfl rfl (fun H locs hw => ?_)
  refine lv_astore_n (lv' := [(3, .ref v0), (0, .ref h), (1, .int (nI k0)), (2, .int t)]) hx hb dEV_version_5 rfl hl (by decide) rfl (fun ls hl => ?_)
  refine lv_aload_n hx hb dEV_version_6 rfl (lv_at hl 0 rfl) ?_
  refine lv_ifnonnull (tgt := 12) hx hb dEV_version_7 (by decide) ?_
  refine lv_iload_n hx hb dEV_version_12 rfl (lv_at hl 3 rfl) ?_
  refine lv_tableOut (tgt := 72) hx hb dEV_version_13 ht (by decide) ?_
  refine lv_iconst (v := (-1)) hx hb dEV_version_72 (by decide) ?_
  exact x_iret S hr hlk hw (by decide) (by decide) (⟨rfl, rfl⟩) dEV_version_73

set_option maxHeartbeats 4000000 in
set_option maxRecDepth 100000 in
theorem f_ver_0 (l : Launch) (D : va_G) (cI cZ cV : ClassId) (h : Nat) (qc : Nat) (qj : Nat) (qe : Nat) (qs : Nat) (qm : Nat) (ctr : Int32) (act : Option Nat) (n1 : Nat) (mk : Nat → Option Nat) (k0 : Nat) (v0 : Nat) (v1 : Nat) (v2 : Nat) (num : Int32) (stt : Int32) (sec : Int32) (lk : Int32) (th : Int32) (sc : Int32) (gset : Int32) (gc : Int32) (hm : mk k0 = some v0) (hk : k0 < n1 ∧ n1 ≤ 8) : XI l yEV_version cEV_version 4 (some .int) D (xT3 cI cZ cV) 1 0 0 [.ref h, .int (nI k0), .int 0] [(h, .inr (5, [.ref qc, .ref qj, .ref qe, .ref qs, .ref qm, .int (nI n1), va_rf act, .int ctr])), (qm, .inl (cV, 8, .inr (.inr (.inr (.inr mk))))), (v0, .inr (4, [.int num, .ref v1, .ref v2, .int stt, .int sec, .int lk, .int th, .int sc, .int gset, .int gc]))] (fun r u => r = stt ∧ u = [(h, .inr (5, [.ref qc, .ref qj, .ref qe, .ref qs, .ref qm, .int (nI n1), va_rf act, .int ctr])), (qm, .inl (cV, 8, .inr (.inr (.inr (.inr mk))))), (v0, .inr (4, [.int num, .ref v1, .ref v2, .int stt, .int sec, .int lk, .int th, .int sc, .int gset, .int gc]))]) := by
  intro sz
  refine x_ofW (Qc := fun A => va_Qi _ (xB D A) A) sz (by decide) (Nat.le_of_ble_eq_true rfl) ?_
  intro p e s m args below meth c A ls S hr hlk hnm hw hl
  obtain ⟨hx, hb, hml, hown, hts⟩ := id S
  have hl : lv_has ls 4 [(0, .ref h), (1, .int (nI k0)), (2, .int 0)] := hl
  refine lv_aload_n hx hb dEV_version_0 rfl (lv_at hl 0 rfl) ?_
  refine lv_iload_n hx hb dEV_version_1 rfl (lv_at hl 1 rfl) ?_
  refine x_callqD (ws' := [(h, .inr (5, [.ref qc, .ref qj, .ref qe, .ref qs, .ref qm, .int (nI n1), va_rf act, .int ctr])), (qm, .inl (cV, 8, .inr (.inr (.inr (.inr mk))))), (v0, .inr (4, [.int num, .ref v1, .ref v2, .int stt, .int sec, .int lk, .int th, .int sc, .int gset, .int gc]))]) hw [0, 1] rfl rfl (x_runV (n := 1) (rest := []) (As := [.int (nI k0)]) S hw (k_find_ok l D cI cZ cV h qc qj qe qs qm ctr act n1 mk k0 v0 hm hk _) xh_1_221 xh_1_218 xh_1_220 xsel_EV_find xh_1_1 (by decide +kernel) ⟨by decide, by decide⟩ [0, 1] rfl rfl (ci := 5) (q0 := 0) rfl rfl rfl hl.1 rfl (Nat.le_of_ble_eq_true rfl) dEV_version_2 ⟨by decide, by decide⟩) rfl rfl rfl (fun H locs hw => ?_)
  refine lv_astore_n (lv' := [(3, .ref v0), (0, .ref h), (1, .int (nI k0)), (2, .int 0)]) hx hb dEV_version_5 rfl hl (by decide) rfl (fun ls hl => ?_)
  refine lv_aload_n hx hb dEV_version_6 rfl (lv_at hl 0 rfl) ?_
  refine lv_ifnonnull (tgt := 12) hx hb dEV_version_7 (by decide) ?_
  refine lv_iload_n hx hb dEV_version_12 rfl (lv_at hl 3 rfl) ?_
  refine lv_tableIn (off := 31) (tgt := 44) hx hb dEV_version_13 (by decide) (by decide) (by decide) (by decide) ?_
  refine lv_aload_n hx hb dEV_version_44 rfl (lv_at hl 0 rfl) ?_
  refine x_getN S hw (C := RVE) (T := TVE) (N := 10) inVE 2 rfl rfl 3 (by decide) xh_1_172 (v := .int stt) rfl dEV_version_45 ?_
  exact x_iret S hr hlk hw (by decide) (by decide) (⟨rfl, rfl⟩) dEV_version_48

set_option maxHeartbeats 4000000 in
set_option maxRecDepth 100000 in
theorem f_ver_1a (l : Launch) (D : va_G) (cI cZ cV : ClassId) (h : Nat) (qc : Nat) (qj : Nat) (qe : Nat) (qs : Nat) (qm : Nat) (ctr : Int32) (act : Option Nat) (n1 : Nat) (mk : Nat → Option Nat) (k0 : Nat) (v0 : Nat) (v1 : Nat) (v2 : Nat) (num : Int32) (stt : Int32) (sec : Int32) (lk : Int32) (th : Int32) (sc : Int32) (gset : Int32) (gc : Int32) (hm : mk k0 = some v0) (hk : k0 < n1 ∧ n1 ≤ 8) (hl9 : lk = 0) : XI l yEV_version cEV_version 4 (some .int) D (xT3 cI cZ cV) 1 0 0 [.ref h, .int (nI k0), .int 1] [(h, .inr (5, [.ref qc, .ref qj, .ref qe, .ref qs, .ref qm, .int (nI n1), va_rf act, .int ctr])), (qm, .inl (cV, 8, .inr (.inr (.inr (.inr mk))))), (v0, .inr (4, [.int num, .ref v1, .ref v2, .int stt, .int sec, .int lk, .int th, .int sc, .int gset, .int gc]))] (fun r u => r = 0 ∧ u = [(h, .inr (5, [.ref qc, .ref qj, .ref qe, .ref qs, .ref qm, .int (nI n1), va_rf act, .int ctr])), (qm, .inl (cV, 8, .inr (.inr (.inr (.inr mk))))), (v0, .inr (4, [.int num, .ref v1, .ref v2, .int stt, .int sec, .int lk, .int th, .int sc, .int gset, .int gc]))]) := by
  intro sz
  refine x_ofW (Qc := fun A => va_Qi _ (xB D A) A) sz (by decide) (Nat.le_of_ble_eq_true rfl) ?_
  intro p e s m args below meth c A ls S hr hlk hnm hw hl
  obtain ⟨hx, hb, hml, hown, hts⟩ := id S
  have hl : lv_has ls 4 [(0, .ref h), (1, .int (nI k0)), (2, .int 1)] := hl
  refine lv_aload_n hx hb dEV_version_0 rfl (lv_at hl 0 rfl) ?_
  refine lv_iload_n hx hb dEV_version_1 rfl (lv_at hl 1 rfl) ?_
  refine x_callqD (ws' := [(h, .inr (5, [.ref qc, .ref qj, .ref qe, .ref qs, .ref qm, .int (nI n1), va_rf act, .int ctr])), (qm, .inl (cV, 8, .inr (.inr (.inr (.inr mk))))), (v0, .inr (4, [.int num, .ref v1, .ref v2, .int stt, .int sec, .int lk, .int th, .int sc, .int gset, .int gc]))]) hw [0, 1] rfl rfl (x_runV (n := 1) (rest := []) (As := [.int (nI k0)]) S hw (k_find_ok l D cI cZ cV h qc qj qe qs qm ctr act n1 mk k0 v0 hm hk _) xh_1_221 xh_1_218 xh_1_220 xsel_EV_find xh_1_1 (by decide +kernel) ⟨by decide, by decide⟩ [0, 1] rfl rfl (ci := 5) (q0 := 0) rfl rfl rfl hl.1 rfl (Nat.le_of_ble_eq_true rfl) dEV_version_2 ⟨by decide, by decide⟩) rfl rfl rfl (fun H locs hw => ?_)
  refine lv_astore_n (lv' := [(3, .ref v0), (0, .ref h), (1, .int (nI k0)), (2, .int 1)]) hx hb dEV_version_5 rfl hl (by decide) rfl (fun ls hl => ?_)
  refine lv_aload_n hx hb dEV_version_6 rfl (lv_at hl 0 rfl) ?_
  refine lv_ifnonnull (tgt := 12) hx hb dEV_version_7 (by decide) ?_
  refine lv_iload_n hx hb dEV_version_12 rfl (lv_at hl 3 rfl) ?_
  refine lv_tableIn (off := 36) (tgt := 49) hx hb dEV_version_13 (by decide) (by decide) (by decide) (by decide) ?_
  refine lv_aload_n hx hb dEV_version_49 rfl (lv_at hl 0 rfl) ?_
  refine x_getN S hw (C := RVE) (T := TVE) (N := 10) inVE 2 rfl rfl 5 (by decide) xh_1_176 (v := .int lk) rfl dEV_version_50 ?_
  refine lv_if_eq (tgt := 60) hx hb dEV_version_53 (by decide) (fun h53 => ?_) (fun h53 => absurd hl9 h53)
  refine lv_iconst (v := 0) hx hb dEV_version_60 (by decide) ?_
  exact x_iret S hr hlk hw (by decide) (by decide) (⟨rfl, rfl⟩) dEV_version_61

set_option maxHeartbeats 4000000 in
set_option maxRecDepth 100000 in
theorem f_ver_1b (l : Launch) (D : va_G) (cI cZ cV : ClassId) (h : Nat) (qc : Nat) (qj : Nat) (qe : Nat) (qs : Nat) (qm : Nat) (ctr : Int32) (act : Option Nat) (n1 : Nat) (mk : Nat → Option Nat) (k0 : Nat) (v0 : Nat) (v1 : Nat) (v2 : Nat) (num : Int32) (stt : Int32) (sec : Int32) (lk : Int32) (th : Int32) (sc : Int32) (gset : Int32) (gc : Int32) (hm : mk k0 = some v0) (hk : k0 < n1 ∧ n1 ≤ 8) (hl9 : ¬ lk = 0) : XI l yEV_version cEV_version 4 (some .int) D (xT3 cI cZ cV) 1 0 0 [.ref h, .int (nI k0), .int 1] [(h, .inr (5, [.ref qc, .ref qj, .ref qe, .ref qs, .ref qm, .int (nI n1), va_rf act, .int ctr])), (qm, .inl (cV, 8, .inr (.inr (.inr (.inr mk))))), (v0, .inr (4, [.int num, .ref v1, .ref v2, .int stt, .int sec, .int lk, .int th, .int sc, .int gset, .int gc]))] (fun r u => r = 1 ∧ u = [(h, .inr (5, [.ref qc, .ref qj, .ref qe, .ref qs, .ref qm, .int (nI n1), va_rf act, .int ctr])), (qm, .inl (cV, 8, .inr (.inr (.inr (.inr mk))))), (v0, .inr (4, [.int num, .ref v1, .ref v2, .int stt, .int sec, .int lk, .int th, .int sc, .int gset, .int gc]))]) := by
  intro sz
  refine x_ofW (Qc := fun A => va_Qi _ (xB D A) A) sz (by decide) (Nat.le_of_ble_eq_true rfl) ?_
  intro p e s m args below meth c A ls S hr hlk hnm hw hl
  obtain ⟨hx, hb, hml, hown, hts⟩ := id S
  have hl : lv_has ls 4 [(0, .ref h), (1, .int (nI k0)), (2, .int 1)] := hl
  refine lv_aload_n hx hb dEV_version_0 rfl (lv_at hl 0 rfl) ?_
  refine lv_iload_n hx hb dEV_version_1 rfl (lv_at hl 1 rfl) ?_
  refine x_callqD (ws' := [(h, .inr (5, [.ref qc, .ref qj, .ref qe, .ref qs, .ref qm, .int (nI n1), va_rf act, .int ctr])), (qm, .inl (cV, 8, .inr (.inr (.inr (.inr mk))))), (v0, .inr (4, [.int num, .ref v1, .ref v2, .int stt, .int sec, .int lk, .int th, .int sc, .int gset, .int gc]))]) hw [0, 1] rfl rfl (x_runV (n := 1) (rest := []) (As := [.int (nI k0)]) S hw (k_find_ok l D cI cZ cV h qc qj qe qs qm ctr act n1 mk k0 v0 hm hk _) xh_1_221 xh_1_218 xh_1_220 xsel_EV_find xh_1_1 (by decide +kernel) ⟨by decide, by decide⟩ [0, 1] rfl rfl (ci := 5) (q0 := 0) rfl rfl rfl hl.1 rfl (Nat.le_of_ble_eq_true rfl) dEV_version_2 ⟨by decide, by decide⟩) rfl rfl rfl (fun H locs hw => ?_)
  refine lv_astore_n (lv' := [(3, .ref v0), (0, .ref h), (1, .int (nI k0)), (2, .int 1)]) hx hb dEV_version_5 rfl hl (by decide) rfl (fun ls hl => ?_)
  refine lv_aload_n hx hb dEV_version_6 rfl (lv_at hl 0 rfl) ?_
  refine lv_ifnonnull (tgt := 12) hx hb dEV_version_7 (by decide) ?_
  refine lv_iload_n hx hb dEV_version_12 rfl (lv_at hl 3 rfl) ?_
  refine lv_tableIn (off := 36) (tgt := 49) hx hb dEV_version_13 (by decide) (by decide) (by decide) (by decide) ?_
  refine lv_aload_n hx hb dEV_version_49 rfl (lv_at hl 0 rfl) ?_
  refine x_getN S hw (C := RVE) (T := TVE) (N := 10) inVE 2 rfl rfl 5 (by decide) xh_1_176 (v := .int lk) rfl dEV_version_50 ?_
  refine lv_if_eq (tgt := 60) hx hb dEV_version_53 (by decide) (fun h53 => absurd h53 hl9) (fun h53 => ?_)
  refine lv_iconst (v := 1) hx hb dEV_version_56 (by decide) ?_
  refine lv_goto (tgt := 61) hx hb dEV_version_57 (by decide) ?_
  exact x_iret S hr hlk hw (by decide) (by decide) (⟨rfl, rfl⟩) dEV_version_61

set_option maxHeartbeats 4000000 in
set_option maxRecDepth 100000 in
theorem f_ver_2 (l : Launch) (D : va_G) (cI cZ cV : ClassId) (h : Nat) (qc : Nat) (qj : Nat) (qe : Nat) (qs : Nat) (qm : Nat) (ctr : Int32) (act : Option Nat) (n1 : Nat) (mk : Nat → Option Nat) (k0 : Nat) (v0 : Nat) (v1 : Nat) (v2 : Nat) (dg : Nat → Int32) (gs : Nat → Int32) (num : Int32) (stt : Int32) (sec : Int32) (lk : Int32) (th : Int32) (sc : Int32) (gset : Int32) (gc : Int32) (hm : mk k0 = some v0) (hk : k0 < n1 ∧ n1 ≤ 8) : XI l yEV_version cEV_version 4 (some .int) D (xT3 cI cZ cV) 1 0 0 [.ref h, .int (nI k0), .int 2] [(h, .inr (5, [.ref qc, .ref qj, .ref qe, .ref qs, .ref qm, .int (nI n1), va_rf act, .int ctr])), (qm, .inl (cV, 8, .inr (.inr (.inr (.inr mk))))), (v0, .inr (4, [.int num, .ref v1, .ref v2, .int stt, .int sec, .int lk, .int th, .int sc, .int gset, .int gc])), (v1, .inl (cI, 9, .inl dg)), (v2, .inl (cI, 9, .inl gs))] (fun r u => r = 16 * th + sc ∧ u = [(h, .inr (5, [.ref qc, .ref qj, .ref qe, .ref qs, .ref qm, .int (nI n1), va_rf act, .int ctr])), (qm, .inl (cV, 8, .inr (.inr (.inr (.inr mk))))), (v0, .inr (4, [.int num, .ref v1, .ref v2, .int stt, .int sec, .int lk, .int th, .int sc, .int gset, .int gc])), (v1, .inl (cI, 9, .inl dg)), (v2, .inl (cI, 9, .inl gs))]) := by
  intro sz
  refine x_ofW (Qc := fun A => va_Qi _ (xB D A) A) sz (by decide) (Nat.le_of_ble_eq_true rfl) ?_
  intro p e s m args below meth c A ls S hr hlk hnm hw hl
  obtain ⟨hx, hb, hml, hown, hts⟩ := id S
  have hl : lv_has ls 4 [(0, .ref h), (1, .int (nI k0)), (2, .int 2)] := hl
  refine lv_aload_n hx hb dEV_version_0 rfl (lv_at hl 0 rfl) ?_
  refine lv_iload_n hx hb dEV_version_1 rfl (lv_at hl 1 rfl) ?_
  refine x_callqD (ws' := [(h, .inr (5, [.ref qc, .ref qj, .ref qe, .ref qs, .ref qm, .int (nI n1), va_rf act, .int ctr])), (qm, .inl (cV, 8, .inr (.inr (.inr (.inr mk))))), (v0, .inr (4, [.int num, .ref v1, .ref v2, .int stt, .int sec, .int lk, .int th, .int sc, .int gset, .int gc])), (v1, .inl (cI, 9, .inl dg)), (v2, .inl (cI, 9, .inl gs))]) hw [0, 1] rfl rfl (x_runV (n := 1) (rest := []) (As := [.int (nI k0)]) S hw (k_find_ok l D cI cZ cV h qc qj qe qs qm ctr act n1 mk k0 v0 hm hk _) xh_1_221 xh_1_218 xh_1_220 xsel_EV_find xh_1_1 (by decide +kernel) ⟨by decide, by decide⟩ [0, 1] rfl rfl (ci := 5) (q0 := 0) rfl rfl rfl hl.1 rfl (Nat.le_of_ble_eq_true rfl) dEV_version_2 ⟨by decide, by decide⟩) rfl rfl rfl (fun H locs hw => ?_)
  refine lv_astore_n (lv' := [(3, .ref v0), (0, .ref h), (1, .int (nI k0)), (2, .int 2)]) hx hb dEV_version_5 rfl hl (by decide) rfl (fun ls hl => ?_)
  refine lv_aload_n hx hb dEV_version_6 rfl (lv_at hl 0 rfl) ?_
  refine lv_ifnonnull (tgt := 12) hx hb dEV_version_7 (by decide) ?_
  refine lv_iload_n hx hb dEV_version_12 rfl (lv_at hl 3 rfl) ?_
  refine lv_tableIn (off := 49) (tgt := 62) hx hb dEV_version_13 (by decide) (by decide) (by decide) (by decide) ?_
  refine lv_aload_n hx hb dEV_version_62 rfl (lv_at hl 0 rfl) ?_
  refine x_calliD (ws' := [(h, .inr (5, [.ref qc, .ref qj, .ref qe, .ref qs, .ref qm, .int (nI n1), va_rf act, .int ctr])), (qm, .inl (cV, 8, .inr (.inr (.inr (.inr mk))))), (v0, .inr (4, [.int num, .ref v1, .ref v2, .int stt, .int sec, .int lk, .int th, .int sc, .int gset, .int gc])), (v1, .inl (cI, 9, .inl dg)), (v2, .inl (cI, 9, .inl gs))]) hw [2, 3, 4] rfl rfl (x_runV (n := 0) (rest := []) (As := []) S hw (k_escrow l D cI cZ cV v0 v1 v2 dg gs num stt sec lk th sc gset gc _) xh_2_22 xh_2_19 xh_2_20 xh_2_21 xh_1_8 (by decide +kernel) ⟨by decide, by decide⟩ [2, 3, 4] rfl rfl (ci := 4) (q0 := 2) rfl rfl rfl hl.1 rfl (Nat.le_of_ble_eq_true rfl) dEV_version_63 ⟨by decide, by decide⟩) rfl rfl (fun H locs hw => ?_)
  exact x_iret S hr hlk hw (by decide) (by decide) (⟨rfl, rfl⟩) dEV_version_66

set_option maxHeartbeats 4000000 in
set_option maxRecDepth 100000 in
theorem f_ver_3 (l : Launch) (D : va_G) (cI cZ cV : ClassId) (h : Nat) (qc : Nat) (qj : Nat) (qe : Nat) (qs : Nat) (qm : Nat) (ctr : Int32) (act : Option Nat) (n1 : Nat) (mk : Nat → Option Nat) (k0 : Nat) (v0 : Nat) (v1 : Nat) (v2 : Nat) (num : Int32) (stt : Int32) (sec : Int32) (lk : Int32) (th : Int32) (sc : Int32) (gset : Int32) (gc : Int32) (hm : mk k0 = some v0) (hk : k0 < n1 ∧ n1 ≤ 8) : XI l yEV_version cEV_version 4 (some .int) D (xT3 cI cZ cV) 1 0 0 [.ref h, .int (nI k0), .int 3] [(h, .inr (5, [.ref qc, .ref qj, .ref qe, .ref qs, .ref qm, .int (nI n1), va_rf act, .int ctr])), (qm, .inl (cV, 8, .inr (.inr (.inr (.inr mk))))), (v0, .inr (4, [.int num, .ref v1, .ref v2, .int stt, .int sec, .int lk, .int th, .int sc, .int gset, .int gc]))] (fun r u => r = gset ∧ u = [(h, .inr (5, [.ref qc, .ref qj, .ref qe, .ref qs, .ref qm, .int (nI n1), va_rf act, .int ctr])), (qm, .inl (cV, 8, .inr (.inr (.inr (.inr mk))))), (v0, .inr (4, [.int num, .ref v1, .ref v2, .int stt, .int sec, .int lk, .int th, .int sc, .int gset, .int gc]))]) := by
  intro sz
  refine x_ofW (Qc := fun A => va_Qi _ (xB D A) A) sz (by decide) (Nat.le_of_ble_eq_true rfl) ?_
  intro p e s m args below meth c A ls S hr hlk hnm hw hl
  obtain ⟨hx, hb, hml, hown, hts⟩ := id S
  have hl : lv_has ls 4 [(0, .ref h), (1, .int (nI k0)), (2, .int 3)] := hl
  refine lv_aload_n hx hb dEV_version_0 rfl (lv_at hl 0 rfl) ?_
  refine lv_iload_n hx hb dEV_version_1 rfl (lv_at hl 1 rfl) ?_
  refine x_callqD (ws' := [(h, .inr (5, [.ref qc, .ref qj, .ref qe, .ref qs, .ref qm, .int (nI n1), va_rf act, .int ctr])), (qm, .inl (cV, 8, .inr (.inr (.inr (.inr mk))))), (v0, .inr (4, [.int num, .ref v1, .ref v2, .int stt, .int sec, .int lk, .int th, .int sc, .int gset, .int gc]))]) hw [0, 1] rfl rfl (x_runV (n := 1) (rest := []) (As := [.int (nI k0)]) S hw (k_find_ok l D cI cZ cV h qc qj qe qs qm ctr act n1 mk k0 v0 hm hk _) xh_1_221 xh_1_218 xh_1_220 xsel_EV_find xh_1_1 (by decide +kernel) ⟨by decide, by decide⟩ [0, 1] rfl rfl (ci := 5) (q0 := 0) rfl rfl rfl hl.1 rfl (Nat.le_of_ble_eq_true rfl) dEV_version_2 ⟨by decide, by decide⟩) rfl rfl rfl (fun H locs hw => ?_)
  refine lv_astore_n (lv' := [(3, .ref v0), (0, .ref h), (1, .int (nI k0)), (2, .int 3)]) hx hb dEV_version_5 rfl hl (by decide) rfl (fun ls hl => ?_)
  refine lv_aload_n hx hb dEV_version_6 rfl (lv_at hl 0 rfl) ?_
  refine lv_ifnonnull (tgt := 12) hx hb dEV_version_7 (by decide) ?_
  refine lv_iload_n hx hb dEV_version_12 rfl (lv_at hl 3 rfl) ?_
  refine lv_tableIn (off := 54) (tgt := 67) hx hb dEV_version_13 (by decide) (by decide) (by decide) (by decide) ?_
  refine lv_aload_n hx hb dEV_version_67 rfl (lv_at hl 0 rfl) ?_
  refine x_getN S hw (C := RVE) (T := TVE) (N := 10) inVE 2 rfl rfl 8 (by decide) xh_1_181 (v := .int gset) rfl dEV_version_68 ?_
  exact x_iret S hr hlk hw (by decide) (by decide) (⟨rfl, rfl⟩) dEV_version_71

set_option maxHeartbeats 4000000 in
set_option maxRecDepth 100000 in
theorem f_versions (l : Launch) (D : va_G) (cI cZ cV : ClassId) (h : Nat) (qc : Nat) (qj : Nat) (qe : Nat) (qs : Nat) (qm : Nat) (mc : Int32) (ctr : Int32) (act : Option Nat) : XI l yEV_versions cEV_versions 1 (some .int) D (xT3 cI cZ cV) 0 0 0 [.ref h] [(h, .inr (5, [.ref qc, .ref qj, .ref qe, .ref qs, .ref qm, .int mc, va_rf act, .int ctr]))] (fun r u => r = mc ∧ u = [(h, .inr (5, [.ref qc, .ref qj, .ref qe, .ref qs, .ref qm, .int mc, va_rf act, .int ctr]))]) := by
  intro sz
  refine x_ofW (Qc := fun A => va_Qi _ (xB D A) A) sz (by decide) (Nat.le_of_ble_eq_true rfl) ?_
  intro p e s m args below meth c A ls S hr hlk hnm hw hl
  obtain ⟨hx, hb, hml, hown, hts⟩ := id S
  have hl : lv_has ls 1 [(0, .ref h)] := hl
  refine lv_aload_n hx hb dEV_versions_0 rfl (lv_at hl 0 rfl) ?_
  refine x_get S hw (C := REV) (T := TEV) (N := 8) inEV 0 rfl rfl 5 (by decide) xh_1_104 (v := .int mc) rfl dEV_versions_1 ?_
  exact x_iret S hr hlk hw (by decide) (by decide) (⟨rfl, rfl⟩) dEV_versions_4

set_option maxHeartbeats 4000000 in
set_option maxRecDepth 100000 in
theorem f_log_no (l : Launch) (D : va_G) (cI cZ cV : ClassId) (h : Nat) (qc : Nat) (qj : Nat) (qe : Nat) (qs : Nat) (qm : Nat) (mc : Int32) (ctr : Int32) (act : Option Nat) (j1 : Nat) (j2 : Nat) (j3 : Nat) (j4 : Nat) (ks : Nat → Int32) (ns : Nat → Int32) (ds : Nat → Int32) (ss : Nat → Int32) (c0 : Nat) (k : Int32) (t : Int32) (hv : k < 0 ∨ nI c0 ≤ k) : XI l yEV_log cEV_log 3 (some .int) D (xT3 cI cZ cV) 0 0 0 [.ref h, .int k, .int t] [(h, .inr (5, [.ref qc, .ref qj, .ref qe, .ref qs, .ref qm, .int mc, va_rf act, .int ctr])), (qj, .inr (2, [.ref j1, .ref j2, .ref j3, .ref j4, .int (nI c0)])), (j1, .inl (cI, 80, .inl ks)), (j2, .inl (cI, 80, .inl ns)), (j3, .inl (cI, 80, .inl ds)), (j4, .inl (cI, 80, .inl ss))] (fun r u => r = 0 ∧ u = [(h, .inr (5, [.ref qc, .ref qj, .ref qe, .ref qs, .ref qm, .int mc, va_rf act, .int ctr])), (qj, .inr (2, [.ref j1, .ref j2, .ref j3, .ref j4, .int (nI c0)])), (j1, .inl (cI, 80, .inl ks)), (j2, .inl (cI, 80, .inl ns)), (j3, .inl (cI, 80, .inl ds)), (j4, .inl (cI, 80, .inl ss))]) := by
  intro sz
  refine x_ofW (Qc := fun A => va_Qi _ (xB D A) A) sz (by decide) (Nat.le_of_ble_eq_true rfl) ?_
  intro p e s m args below meth c A ls S hr hlk hnm hw hl
  obtain ⟨hx, hb, hml, hown, hts⟩ := id S
  have hl : lv_has ls 3 [(0, .ref h), (1, .int k), (2, .int t)] := hl
  refine lv_iload_n hx hb dEV_log_0 rfl (lv_at hl 1 rfl) ?_
  refine lv_if_lt (tgt := 15) hx hb dEV_log_1 (by decide) (fun h1 => ?_) (fun h1 => ?_)
  · skip
    refine lv_iconst (v := 0) hx hb dEV_log_15 (by decide) ?_
    exact x_iret S hr hlk hw (by decide) (by decide) (⟨rfl, rfl⟩) dEV_log_16
  refine lv_iload_n hx hb dEV_log_4 rfl (lv_at hl 1 rfl) ?_
  refine lv_aload_n hx hb dEV_log_5 rfl (lv_at hl 0 rfl) ?_
  refine x_get S hw (C := REV) (T := TEV) (N := 8) inEV 0 rfl rfl 1 (by decide) xh_1_100 (v := .ref qj) rfl dEV_log_6 ?_
  refine x_getN S hw (C := RJO) (T := TJO) (N := 5) inJO 1 rfl rfl 4 (by decide) xh_1_51 (v := .int (nI c0)) rfl dEV_log_9 ?_
  refine lv_icmp_lt (tgt := 17) hx hb dEV_log_12 (by decide) (fun h12 => ?_) (fun h12 => ?_)
  · skip
    exact False.elim (by rcases hv with h | h; exact h1 h; exact Int32.not_lt.mpr h h12)
  refine lv_iconst (v := 0) hx hb dEV_log_15 (by decide) ?_
  exact x_iret S hr hlk hw (by decide) (by decide) (⟨rfl, rfl⟩) dEV_log_16

set_option maxHeartbeats 4000000 in
set_option maxRecDepth 100000 in
theorem f_log_out (l : Launch) (D : va_G) (cI cZ cV : ClassId) (h : Nat) (qc : Nat) (qj : Nat) (qe : Nat) (qs : Nat) (qm : Nat) (mc : Int32) (ctr : Int32) (act : Option Nat) (j1 : Nat) (j2 : Nat) (j3 : Nat) (j4 : Nat) (ks : Nat → Int32) (ns : Nat → Int32) (ds : Nat → Int32) (ss : Nat → Int32) (c0 : Nat) (j : Nat) (t : Int32) (hj : j < c0 ∧ c0 ≤ 80) (ht : t.toInt < 0 ∨ 3 < t.toInt) : XI l yEV_log cEV_log 3 (some .int) D (xT3 cI cZ cV) 0 0 0 [.ref h, .int (nI j), .int t] [(h, .inr (5, [.ref qc, .ref qj, .ref qe, .ref qs, .ref qm, .int mc, va_rf act, .int ctr])), (qj, .inr (2, [.ref j1, .ref j2, .ref j3, .ref j4, .int (nI c0)])), (j1, .inl (cI, 80, .inl ks)), (j2, .inl (cI, 80, .inl ns)), (j3, .inl (cI, 80, .inl ds)), (j4, .inl (cI, 80, .inl ss))] (fun r u => r = 0 ∧ u = [(h, .inr (5, [.ref qc, .ref qj, .ref qe, .ref qs, .ref qm, .int mc, va_rf act, .int ctr])), (qj, .inr (2, [.ref j1, .ref j2, .ref j3, .ref j4, .int (nI c0)])), (j1, .inl (cI, 80, .inl ks)), (j2, .inl (cI, 80, .inl ns)), (j3, .inl (cI, 80, .inl ds)), (j4, .inl (cI, 80, .inl ss))]) := by
  intro sz
  refine x_ofW (Qc := fun A => va_Qi _ (xB D A) A) sz (by decide) (Nat.le_of_ble_eq_true rfl) ?_
  intro p e s m args below meth c A ls S hr hlk hnm hw hl
  obtain ⟨hx, hb, hml, hown, hts⟩ := id S
  have hl : lv_has ls 3 [(0, .ref h), (1, .int (nI j)), (2, .int t)] := hl
  refine lv_iload_n hx hb dEV_log_0 rfl (lv_at hl 1 rfl) ?_
  refine lv_if_lt (tgt := 15) hx hb dEV_log_1 (by decide) (fun h1 => absurd h1 (nI_pos (by omega))) (fun h1 => ?_)
  refine lv_iload_n hx hb dEV_log_4 rfl (lv_at hl 1 rfl) ?_
  refine lv_aload_n hx hb dEV_log_5 rfl (lv_at hl 0 rfl) ?_
  refine x_get S hw (C := REV) (T := TEV) (N := 8) inEV 0 rfl rfl 1 (by decide) xh_1_100 (v := .ref qj) rfl dEV_log_6 ?_
  refine x_getN S hw (C := RJO) (T := TJO) (N := 5) inJO 1 rfl rfl 4 (by decide) xh_1_51 (v := .int (nI c0)) rfl dEV_log_9 ?_
  refine lv_icmp_lt (tgt := 17) hx hb dEV_log_12 (by decide) (fun h12 => ?_) (fun h12 => absurd (nI_lt (by omega) (by omega)) h12)
  refine lv_iload_n hx hb dEV_log_17 rfl (lv_at hl 2 rfl) ?_
  refine lv_tableOut (tgt := 88) hx hb dEV_log_18 ht (by decide) ?_
  refine lv_iconst (v := 0) hx hb dEV_log_88 (by decide) ?_
  exact x_iret S hr hlk hw (by decide) (by decide) (⟨rfl, rfl⟩) dEV_log_89

set_option maxHeartbeats 4000000 in
set_option maxRecDepth 100000 in
theorem f_log_0 (l : Launch) (D : va_G) (cI cZ cV : ClassId) (h : Nat) (qc : Nat) (qj : Nat) (qe : Nat) (qs : Nat) (qm : Nat) (mc : Int32) (ctr : Int32) (act : Option Nat) (j1 : Nat) (j2 : Nat) (j3 : Nat) (j4 : Nat) (ks : Nat → Int32) (ns : Nat → Int32) (ds : Nat → Int32) (ss : Nat → Int32) (c0 : Nat) (j : Nat) (hj : j < c0 ∧ c0 ≤ 80) : XI l yEV_log cEV_log 3 (some .int) D (xT3 cI cZ cV) 0 0 0 [.ref h, .int (nI j), .int 0] [(h, .inr (5, [.ref qc, .ref qj, .ref qe, .ref qs, .ref qm, .int mc, va_rf act, .int ctr])), (qj, .inr (2, [.ref j1, .ref j2, .ref j3, .ref j4, .int (nI c0)])), (j1, .inl (cI, 80, .inl ks)), (j2, .inl (cI, 80, .inl ns)), (j3, .inl (cI, 80, .inl ds)), (j4, .inl (cI, 80, .inl ss))] (fun r u => r = ks j ∧ u = [(h, .inr (5, [.ref qc, .ref qj, .ref qe, .ref qs, .ref qm, .int mc, va_rf act, .int ctr])), (qj, .inr (2, [.ref j1, .ref j2, .ref j3, .ref j4, .int (nI c0)])), (j1, .inl (cI, 80, .inl ks)), (j2, .inl (cI, 80, .inl ns)), (j3, .inl (cI, 80, .inl ds)), (j4, .inl (cI, 80, .inl ss))]) := by
  intro sz
  refine x_ofW (Qc := fun A => va_Qi _ (xB D A) A) sz (by decide) (Nat.le_of_ble_eq_true rfl) ?_
  intro p e s m args below meth c A ls S hr hlk hnm hw hl
  obtain ⟨hx, hb, hml, hown, hts⟩ := id S
  have hl : lv_has ls 3 [(0, .ref h), (1, .int (nI j)), (2, .int 0)] := hl
  refine lv_iload_n hx hb dEV_log_0 rfl (lv_at hl 1 rfl) ?_
  refine lv_if_lt (tgt := 15) hx hb dEV_log_1 (by decide) (fun h1 => absurd h1 (nI_pos (by omega))) (fun h1 => ?_)
  refine lv_iload_n hx hb dEV_log_4 rfl (lv_at hl 1 rfl) ?_
  refine lv_aload_n hx hb dEV_log_5 rfl (lv_at hl 0 rfl) ?_
  refine x_get S hw (C := REV) (T := TEV) (N := 8) inEV 0 rfl rfl 1 (by decide) xh_1_100 (v := .ref qj) rfl dEV_log_6 ?_
  refine x_getN S hw (C := RJO) (T := TJO) (N := 5) inJO 1 rfl rfl 4 (by decide) xh_1_51 (v := .int (nI c0)) rfl dEV_log_9 ?_
  refine lv_icmp_lt (tgt := 17) hx hb dEV_log_12 (by decide) (fun h12 => ?_) (fun h12 => absurd (nI_lt (by omega) (by omega)) h12)
  refine lv_iload_n hx hb dEV_log_17 rfl (lv_at hl 2 rfl) ?_
  refine lv_tableIn (off := 30) (tgt := 48) hx hb dEV_log_18 (by decide) (by decide) (by decide) (by decide) ?_
  refine lv_aload_n hx hb dEV_log_48 rfl (lv_at hl 0 rfl) ?_
  refine x_get S hw (C := REV) (T := TEV) (N := 8) inEV 0 rfl rfl 1 (by decide) xh_1_100 (v := .ref qj) rfl dEV_log_49 ?_
  refine x_getN S hw (C := RJO) (T := TJO) (N := 5) inJO 1 rfl rfl 0 (by decide) xh_1_43 (v := .ref j1) rfl dEV_log_52 ?_
  refine lv_iload_n hx hb dEV_log_55 rfl (lv_at hl 1 rfl) ?_
  refine x_iald S hw 2 0 rfl rfl (j := j) (vp_in_nI (by omega) (by omega)) (nI_clamp (by omega)) dEV_log_56 ?_
  exact x_iret S hr hlk hw (by decide) (by decide) (⟨rfl, rfl⟩) dEV_log_57

set_option maxHeartbeats 4000000 in
set_option maxRecDepth 100000 in
theorem f_log_1 (l : Launch) (D : va_G) (cI cZ cV : ClassId) (h : Nat) (qc : Nat) (qj : Nat) (qe : Nat) (qs : Nat) (qm : Nat) (mc : Int32) (ctr : Int32) (act : Option Nat) (j1 : Nat) (j2 : Nat) (j3 : Nat) (j4 : Nat) (ks : Nat → Int32) (ns : Nat → Int32) (ds : Nat → Int32) (ss : Nat → Int32) (c0 : Nat) (j : Nat) (hj : j < c0 ∧ c0 ≤ 80) : XI l yEV_log cEV_log 3 (some .int) D (xT3 cI cZ cV) 0 0 0 [.ref h, .int (nI j), .int 1] [(h, .inr (5, [.ref qc, .ref qj, .ref qe, .ref qs, .ref qm, .int mc, va_rf act, .int ctr])), (qj, .inr (2, [.ref j1, .ref j2, .ref j3, .ref j4, .int (nI c0)])), (j1, .inl (cI, 80, .inl ks)), (j2, .inl (cI, 80, .inl ns)), (j3, .inl (cI, 80, .inl ds)), (j4, .inl (cI, 80, .inl ss))] (fun r u => r = ns j ∧ u = [(h, .inr (5, [.ref qc, .ref qj, .ref qe, .ref qs, .ref qm, .int mc, va_rf act, .int ctr])), (qj, .inr (2, [.ref j1, .ref j2, .ref j3, .ref j4, .int (nI c0)])), (j1, .inl (cI, 80, .inl ks)), (j2, .inl (cI, 80, .inl ns)), (j3, .inl (cI, 80, .inl ds)), (j4, .inl (cI, 80, .inl ss))]) := by
  intro sz
  refine x_ofW (Qc := fun A => va_Qi _ (xB D A) A) sz (by decide) (Nat.le_of_ble_eq_true rfl) ?_
  intro p e s m args below meth c A ls S hr hlk hnm hw hl
  obtain ⟨hx, hb, hml, hown, hts⟩ := id S
  have hl : lv_has ls 3 [(0, .ref h), (1, .int (nI j)), (2, .int 1)] := hl
  refine lv_iload_n hx hb dEV_log_0 rfl (lv_at hl 1 rfl) ?_
  refine lv_if_lt (tgt := 15) hx hb dEV_log_1 (by decide) (fun h1 => absurd h1 (nI_pos (by omega))) (fun h1 => ?_)
  refine lv_iload_n hx hb dEV_log_4 rfl (lv_at hl 1 rfl) ?_
  refine lv_aload_n hx hb dEV_log_5 rfl (lv_at hl 0 rfl) ?_
  refine x_get S hw (C := REV) (T := TEV) (N := 8) inEV 0 rfl rfl 1 (by decide) xh_1_100 (v := .ref qj) rfl dEV_log_6 ?_
  refine x_getN S hw (C := RJO) (T := TJO) (N := 5) inJO 1 rfl rfl 4 (by decide) xh_1_51 (v := .int (nI c0)) rfl dEV_log_9 ?_
  refine lv_icmp_lt (tgt := 17) hx hb dEV_log_12 (by decide) (fun h12 => ?_) (fun h12 => absurd (nI_lt (by omega) (by omega)) h12)
  refine lv_iload_n hx hb dEV_log_17 rfl (lv_at hl 2 rfl) ?_
  refine lv_tableIn (off := 40) (tgt := 58) hx hb dEV_log_18 (by decide) (by decide) (by decide) (by decide) ?_
  refine lv_aload_n hx hb dEV_log_58 rfl (lv_at hl 0 rfl) ?_
  refine x_get S hw (C := REV) (T := TEV) (N := 8) inEV 0 rfl rfl 1 (by decide) xh_1_100 (v := .ref qj) rfl dEV_log_59 ?_
  refine x_getN S hw (C := RJO) (T := TJO) (N := 5) inJO 1 rfl rfl 1 (by decide) xh_1_45 (v := .ref j2) rfl dEV_log_62 ?_
  refine lv_iload_n hx hb dEV_log_65 rfl (lv_at hl 1 rfl) ?_
  refine x_iald S hw 3 0 rfl rfl (j := j) (vp_in_nI (by omega) (by omega)) (nI_clamp (by omega)) dEV_log_66 ?_
  exact x_iret S hr hlk hw (by decide) (by decide) (⟨rfl, rfl⟩) dEV_log_67

set_option maxHeartbeats 4000000 in
set_option maxRecDepth 100000 in
theorem f_log_2 (l : Launch) (D : va_G) (cI cZ cV : ClassId) (h : Nat) (qc : Nat) (qj : Nat) (qe : Nat) (qs : Nat) (qm : Nat) (mc : Int32) (ctr : Int32) (act : Option Nat) (j1 : Nat) (j2 : Nat) (j3 : Nat) (j4 : Nat) (ks : Nat → Int32) (ns : Nat → Int32) (ds : Nat → Int32) (ss : Nat → Int32) (c0 : Nat) (j : Nat) (hj : j < c0 ∧ c0 ≤ 80) : XI l yEV_log cEV_log 3 (some .int) D (xT3 cI cZ cV) 0 0 0 [.ref h, .int (nI j), .int 2] [(h, .inr (5, [.ref qc, .ref qj, .ref qe, .ref qs, .ref qm, .int mc, va_rf act, .int ctr])), (qj, .inr (2, [.ref j1, .ref j2, .ref j3, .ref j4, .int (nI c0)])), (j1, .inl (cI, 80, .inl ks)), (j2, .inl (cI, 80, .inl ns)), (j3, .inl (cI, 80, .inl ds)), (j4, .inl (cI, 80, .inl ss))] (fun r u => r = ds j ∧ u = [(h, .inr (5, [.ref qc, .ref qj, .ref qe, .ref qs, .ref qm, .int mc, va_rf act, .int ctr])), (qj, .inr (2, [.ref j1, .ref j2, .ref j3, .ref j4, .int (nI c0)])), (j1, .inl (cI, 80, .inl ks)), (j2, .inl (cI, 80, .inl ns)), (j3, .inl (cI, 80, .inl ds)), (j4, .inl (cI, 80, .inl ss))]) := by
  intro sz
  refine x_ofW (Qc := fun A => va_Qi _ (xB D A) A) sz (by decide) (Nat.le_of_ble_eq_true rfl) ?_
  intro p e s m args below meth c A ls S hr hlk hnm hw hl
  obtain ⟨hx, hb, hml, hown, hts⟩ := id S
  have hl : lv_has ls 3 [(0, .ref h), (1, .int (nI j)), (2, .int 2)] := hl
  refine lv_iload_n hx hb dEV_log_0 rfl (lv_at hl 1 rfl) ?_
  refine lv_if_lt (tgt := 15) hx hb dEV_log_1 (by decide) (fun h1 => absurd h1 (nI_pos (by omega))) (fun h1 => ?_)
  refine lv_iload_n hx hb dEV_log_4 rfl (lv_at hl 1 rfl) ?_
  refine lv_aload_n hx hb dEV_log_5 rfl (lv_at hl 0 rfl) ?_
  refine x_get S hw (C := REV) (T := TEV) (N := 8) inEV 0 rfl rfl 1 (by decide) xh_1_100 (v := .ref qj) rfl dEV_log_6 ?_
  refine x_getN S hw (C := RJO) (T := TJO) (N := 5) inJO 1 rfl rfl 4 (by decide) xh_1_51 (v := .int (nI c0)) rfl dEV_log_9 ?_
  refine lv_icmp_lt (tgt := 17) hx hb dEV_log_12 (by decide) (fun h12 => ?_) (fun h12 => absurd (nI_lt (by omega) (by omega)) h12)
  refine lv_iload_n hx hb dEV_log_17 rfl (lv_at hl 2 rfl) ?_
  refine lv_tableIn (off := 50) (tgt := 68) hx hb dEV_log_18 (by decide) (by decide) (by decide) (by decide) ?_
  refine lv_aload_n hx hb dEV_log_68 rfl (lv_at hl 0 rfl) ?_
  refine x_get S hw (C := REV) (T := TEV) (N := 8) inEV 0 rfl rfl 1 (by decide) xh_1_100 (v := .ref qj) rfl dEV_log_69 ?_
  refine x_getN S hw (C := RJO) (T := TJO) (N := 5) inJO 1 rfl rfl 2 (by decide) xh_1_47 (v := .ref j3) rfl dEV_log_72 ?_
  refine lv_iload_n hx hb dEV_log_75 rfl (lv_at hl 1 rfl) ?_
  refine x_iald S hw 4 0 rfl rfl (j := j) (vp_in_nI (by omega) (by omega)) (nI_clamp (by omega)) dEV_log_76 ?_
  exact x_iret S hr hlk hw (by decide) (by decide) (⟨rfl, rfl⟩) dEV_log_77

set_option maxHeartbeats 4000000 in
set_option maxRecDepth 100000 in
theorem f_log_3 (l : Launch) (D : va_G) (cI cZ cV : ClassId) (h : Nat) (qc : Nat) (qj : Nat) (qe : Nat) (qs : Nat) (qm : Nat) (mc : Int32) (ctr : Int32) (act : Option Nat) (j1 : Nat) (j2 : Nat) (j3 : Nat) (j4 : Nat) (ks : Nat → Int32) (ns : Nat → Int32) (ds : Nat → Int32) (ss : Nat → Int32) (c0 : Nat) (j : Nat) (hj : j < c0 ∧ c0 ≤ 80) : XI l yEV_log cEV_log 3 (some .int) D (xT3 cI cZ cV) 0 0 0 [.ref h, .int (nI j), .int 3] [(h, .inr (5, [.ref qc, .ref qj, .ref qe, .ref qs, .ref qm, .int mc, va_rf act, .int ctr])), (qj, .inr (2, [.ref j1, .ref j2, .ref j3, .ref j4, .int (nI c0)])), (j1, .inl (cI, 80, .inl ks)), (j2, .inl (cI, 80, .inl ns)), (j3, .inl (cI, 80, .inl ds)), (j4, .inl (cI, 80, .inl ss))] (fun r u => r = ss j ∧ u = [(h, .inr (5, [.ref qc, .ref qj, .ref qe, .ref qs, .ref qm, .int mc, va_rf act, .int ctr])), (qj, .inr (2, [.ref j1, .ref j2, .ref j3, .ref j4, .int (nI c0)])), (j1, .inl (cI, 80, .inl ks)), (j2, .inl (cI, 80, .inl ns)), (j3, .inl (cI, 80, .inl ds)), (j4, .inl (cI, 80, .inl ss))]) := by
  intro sz
  refine x_ofW (Qc := fun A => va_Qi _ (xB D A) A) sz (by decide) (Nat.le_of_ble_eq_true rfl) ?_
  intro p e s m args below meth c A ls S hr hlk hnm hw hl
  obtain ⟨hx, hb, hml, hown, hts⟩ := id S
  have hl : lv_has ls 3 [(0, .ref h), (1, .int (nI j)), (2, .int 3)] := hl
  refine lv_iload_n hx hb dEV_log_0 rfl (lv_at hl 1 rfl) ?_
  refine lv_if_lt (tgt := 15) hx hb dEV_log_1 (by decide) (fun h1 => absurd h1 (nI_pos (by omega))) (fun h1 => ?_)
  refine lv_iload_n hx hb dEV_log_4 rfl (lv_at hl 1 rfl) ?_
  refine lv_aload_n hx hb dEV_log_5 rfl (lv_at hl 0 rfl) ?_
  refine x_get S hw (C := REV) (T := TEV) (N := 8) inEV 0 rfl rfl 1 (by decide) xh_1_100 (v := .ref qj) rfl dEV_log_6 ?_
  refine x_getN S hw (C := RJO) (T := TJO) (N := 5) inJO 1 rfl rfl 4 (by decide) xh_1_51 (v := .int (nI c0)) rfl dEV_log_9 ?_
  refine lv_icmp_lt (tgt := 17) hx hb dEV_log_12 (by decide) (fun h12 => ?_) (fun h12 => absurd (nI_lt (by omega) (by omega)) h12)
  refine lv_iload_n hx hb dEV_log_17 rfl (lv_at hl 2 rfl) ?_
  refine lv_tableIn (off := 60) (tgt := 78) hx hb dEV_log_18 (by decide) (by decide) (by decide) (by decide) ?_
  refine lv_aload_n hx hb dEV_log_78 rfl (lv_at hl 0 rfl) ?_
  refine x_get S hw (C := REV) (T := TEV) (N := 8) inEV 0 rfl rfl 1 (by decide) xh_1_100 (v := .ref qj) rfl dEV_log_79 ?_
  refine x_getN S hw (C := RJO) (T := TJO) (N := 5) inJO 1 rfl rfl 3 (by decide) xh_1_49 (v := .ref j4) rfl dEV_log_82 ?_
  refine lv_iload_n hx hb dEV_log_85 rfl (lv_at hl 1 rfl) ?_
  refine x_iald S hw 5 0 rfl rfl (j := j) (vp_in_nI (by omega) (by omega)) (nI_clamp (by omega)) dEV_log_86 ?_
  exact x_iret S hr hlk hw (by decide) (by decide) (⟨rfl, rfl⟩) dEV_log_87

set_option maxHeartbeats 4000000 in
set_option maxRecDepth 100000 in
theorem f_entries (l : Launch) (D : va_G) (cI cZ cV : ClassId) (h : Nat) (qc : Nat) (qj : Nat) (qe : Nat) (qs : Nat) (qm : Nat) (mc : Int32) (ctr : Int32) (act : Option Nat) (j1 : Nat) (j2 : Nat) (j3 : Nat) (j4 : Nat) (ks : Nat → Int32) (ns : Nat → Int32) (ds : Nat → Int32) (ss : Nat → Int32) (c0 : Nat) : XI l yEV_entries cEV_entries 1 (some .int) D (xT3 cI cZ cV) 0 0 0 [.ref h] [(h, .inr (5, [.ref qc, .ref qj, .ref qe, .ref qs, .ref qm, .int mc, va_rf act, .int ctr])), (qj, .inr (2, [.ref j1, .ref j2, .ref j3, .ref j4, .int (nI c0)])), (j1, .inl (cI, 80, .inl ks)), (j2, .inl (cI, 80, .inl ns)), (j3, .inl (cI, 80, .inl ds)), (j4, .inl (cI, 80, .inl ss))] (fun r u => r = nI c0 ∧ u = [(h, .inr (5, [.ref qc, .ref qj, .ref qe, .ref qs, .ref qm, .int mc, va_rf act, .int ctr])), (qj, .inr (2, [.ref j1, .ref j2, .ref j3, .ref j4, .int (nI c0)])), (j1, .inl (cI, 80, .inl ks)), (j2, .inl (cI, 80, .inl ns)), (j3, .inl (cI, 80, .inl ds)), (j4, .inl (cI, 80, .inl ss))]) := by
  intro sz
  refine x_ofW (Qc := fun A => va_Qi _ (xB D A) A) sz (by decide) (Nat.le_of_ble_eq_true rfl) ?_
  intro p e s m args below meth c A ls S hr hlk hnm hw hl
  obtain ⟨hx, hb, hml, hown, hts⟩ := id S
  have hl : lv_has ls 1 [(0, .ref h)] := hl
  refine lv_aload_n hx hb dEV_entries_0 rfl (lv_at hl 0 rfl) ?_
  refine x_get S hw (C := REV) (T := TEV) (N := 8) inEV 0 rfl rfl 1 (by decide) xh_1_100 (v := .ref qj) rfl dEV_entries_1 ?_
  refine x_getN S hw (C := RJO) (T := TJO) (N := 5) inJO 1 rfl rfl 4 (by decide) xh_1_51 (v := .int (nI c0)) rfl dEV_entries_4 ?_
  exact x_iret S hr hlk hw (by decide) (by decide) (⟨rfl, rfl⟩) dEV_entries_7
