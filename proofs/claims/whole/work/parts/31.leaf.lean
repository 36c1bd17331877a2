set_option maxHeartbeats 4000000 in
set_option maxRecDepth 100000 in
theorem k_room_y (l : Launch) (D : va_G) (cI cZ cV : ClassId) (q : Nat) (q1 : Nat) (q2 : Nat) (q3 : Nat) (q4 : Nat) (ks : Nat → Int32) (ns : Nat → Int32) (ds : Nat → Int32) (ss : Nat → Int32) (c0 : Nat) (m0 : Nat) (h : c0 + m0 ≤ 80) : XI l yJO_hasRoomFor cJO_hasRoomFor 2 (some .boolean) D (xT3 cI cZ cV) 0 0 0 [.ref q, .int (nI m0)] [(q, .inr (2, [.ref q1, .ref q2, .ref q3, .ref q4, .int (nI c0)])), (q1, .inl (cI, 80, .inl ks)), (q2, .inl (cI, 80, .inl ns)), (q3, .inl (cI, 80, .inl ds)), (q4, .inl (cI, 80, .inl ss))] (fun r u => r = 1 ∧ u = [(q, .inr (2, [.ref q1, .ref q2, .ref q3, .ref q4, .int (nI c0)])), (q1, .inl (cI, 80, .inl ks)), (q2, .inl (cI, 80, .inl ns)), (q3, .inl (cI, 80, .inl ds)), (q4, .inl (cI, 80, .inl ss))]) := by
  intro sz
  refine x_ofW (Qc := fun A => va_Qi _ (xB D A) A) sz (by decide) (Nat.le_of_ble_eq_true rfl) ?_
  intro p e s m args below meth c A ls S hr hlk hnm hw hl
  obtain ⟨hx, hb, hml, hown, hts⟩ := id S
  have hl : lv_has ls 2 [(0, .ref q), (1, .int (nI m0))] := hl
  refine lv_aload_n hx hb dJO_hasRoomFor_0 rfl (lv_at hl 0 rfl) ?_
  refine x_get S hw (C := RJO) (T := TJO) (N := 5) inJO 0 rfl rfl 4 (by decide) xh_1_50 (v := .int (nI c0)) rfl dJO_hasRoomFor_1 ?_
  refine lv_iload_n hx hb dJO_hasRoomFor_4 rfl (lv_at hl 1 rfl) ?_
  refine lv_iadd hx hb dJO_hasRoomFor_5 ?_
  refine x_topi (y := nI (c0 + m0)) (nI_add _ _) ?_
  refine lv_bipush (v := 80) hx hb dJO_hasRoomFor_6 (by decide) ?_
  refine lv_icmp_gt (tgt := 15) hx hb dJO_hasRoomFor_8 (by decide) (fun h8 => absurd h8 (nI_nlt (a := 80) (b := c0 + m0) h (by decide))) (fun h8 => ?_)
  refine lv_iconst (v := 1) hx hb dJO_hasRoomFor_11 (by decide) ?_
  refine lv_goto (tgt := 16) hx hb dJO_hasRoomFor_12 (by decide) ?_
  exact x_zret S hr hlk hw (by decide) (by decide) rfl (⟨rfl, rfl⟩) dJO_hasRoomFor_16

set_option maxHeartbeats 4000000 in
set_option maxRecDepth 100000 in
theorem k_room_n (l : Launch) (D : va_G) (cI cZ cV : ClassId) (q : Nat) (q1 : Nat) (q2 : Nat) (q3 : Nat) (q4 : Nat) (ks : Nat → Int32) (ns : Nat → Int32) (ds : Nat → Int32) (ss : Nat → Int32) (c0 : Nat) (m0 : Nat) (h : 80 < c0 + m0) (h2 : c0 + m0 < 1000) : XI l yJO_hasRoomFor cJO_hasRoomFor 2 (some .boolean) D (xT3 cI cZ cV) 0 0 0 [.ref q, .int (nI m0)] [(q, .inr (2, [.ref q1, .ref q2, .ref q3, .ref q4, .int (nI c0)])), (q1, .inl (cI, 80, .inl ks)), (q2, .inl (cI, 80, .inl ns)), (q3, .inl (cI, 80, .inl ds)), (q4, .inl (cI, 80, .inl ss))] (fun r u => r = 0 ∧ u = [(q, .inr (2, [.ref q1, .ref q2, .ref q3, .ref q4, .int (nI c0)])), (q1, .inl (cI, 80, .inl ks)), (q2, .inl (cI, 80, .inl ns)), (q3, .inl (cI, 80, .inl ds)), (q4, .inl (cI, 80, .inl ss))]) := by
  intro sz
  refine x_ofW (Qc := fun A => va_Qi _ (xB D A) A) sz (by decide) (Nat.le_of_ble_eq_true rfl) ?_
  intro p e s m args below meth c A ls S hr hlk hnm hw hl
  obtain ⟨hx, hb, hml, hown, hts⟩ := id S
  have hl : lv_has ls 2 [(0, .ref q), (1, .int (nI m0))] := hl
  refine lv_aload_n hx hb dJO_hasRoomFor_0 rfl (lv_at hl 0 rfl) ?_
  refine x_get S hw (C := RJO) (T := TJO) (N := 5) inJO 0 rfl rfl 4 (by decide) xh_1_50 (v := .int (nI c0)) rfl dJO_hasRoomFor_1 ?_
  refine lv_iload_n hx hb dJO_hasRoomFor_4 rfl (lv_at hl 1 rfl) ?_
  refine lv_iadd hx hb dJO_hasRoomFor_5 ?_
  refine x_topi (y := nI (c0 + m0)) (nI_add _ _) ?_
  refine lv_bipush (v := 80) hx hb dJO_hasRoomFor_6 (by decide) ?_
  refine lv_icmp_gt (tgt := 15) hx hb dJO_hasRoomFor_8 (by decide) (fun h8 => ?_) (fun h8 => absurd (nI_lt (a := 80) (b := c0 + m0) h (by omega)) h8)
  refine lv_iconst (v := 0) hx hb dJO_hasRoomFor_15 (by decide) ?_
  exact x_zret S hr hlk hw (by decide) (by decide) rfl (⟨rfl, rfl⟩) dJO_hasRoomFor_16

set_option maxHeartbeats 4000000 in
set_option maxRecDepth 100000 in
theorem k_write0 (l : Launch) (D : va_G) (cI cZ cV : ClassId) (q : Nat) (q1 : Nat) (q2 : Nat) (q3 : Nat) (q4 : Nat) (ks : Nat → Int32) (ns : Nat → Int32) (ds : Nat → Int32) (ss : Nat → Int32) (kd : Int32) (nm : Int32) (dt : Int32) : XV l yJO_write cJO_write 5 none D (xT3 cI cZ cV) 1 0 0 [.ref q, .int kd, .int nm, .int dt] [(q, .inr (2, [.ref q1, .ref q2, .ref q3, .ref q4, .int (nI 0)])), (q1, .inl (cI, 80, .inl ks)), (q2, .inl (cI, 80, .inl ns)), (q3, .inl (cI, 80, .inl ds)), (q4, .inl (cI, 80, .inl ss))] (fun u => u = [(q, .inr (2, [.ref q1, .ref q2, .ref q3, .ref q4, .int (nI (0 + 1))])), (q1, .inl (cI, 80, .inl (upd ks 0 kd))), (q2, .inl (cI, 80, .inl (upd ns 0 nm))), (q3, .inl (cI, 80, .inl (upd ds 0 dt))), (q4, .inl (cI, 80, .inl (upd ss 0 (fMix (fMix (fMix 7 kd) nm) dt))))]) := by
  intro sz
  refine x_ofW (Qc := fun A => va_Qv _ (xB D A) A) sz (by decide) (Nat.le_of_ble_eq_true rfl) ?_
  intro p e s m args below meth c A ls S hr hlk hnm hw hl
  obtain ⟨hx, hb, hml, hown, hts⟩ := id S
  have hl : lv_has ls 5 [(0, .ref q), (1, .int kd), (2, .int nm), (3, .int dt)] := hl
  refine lv_aload_n hx hb dJO_write_0 rfl (lv_at hl 0 rfl) ?_
  refine x_get S hw (C := RJO) (T := TJO) (N := 5) inJO 0 rfl rfl 4 (by decide) xh_1_50 (v := .int (nI 0)) rfl dJO_write_1 ?_
  refine lv_if_ne (tgt := 12) hx hb dJO_write_4 (by decide) (fun h4 => absurd nI_0 h4) (fun h4 => ?_)
  refine lv_bipush (v := 7) hx hb dJO_write_7 (by decide) ?_
  refine lv_goto (tgt := 23) hx hb dJO_write_9 (by decide) ?_
  refine lv_istore (lv' := [(4, .int 7), (0, .ref q), (1, .int kd), (2, .int nm), (3, .int dt)]) hx hb dJO_write_23 hl (by decide) rfl (fun ls hl => ?_)
  refine lv_aload_n hx hb dJO_write_25 rfl (lv_at hl 1 rfl) ?_
  refine x_get S hw (C := RJO) (T := TJO) (N := 5) inJO 0 rfl rfl 0 (by decide) xh_1_42 (v := .ref q1) rfl dJO_write_26 ?_
  refine lv_aload_n hx hb dJO_write_29 rfl (lv_at hl 1 rfl) ?_
  refine x_get S hw (C := RJO) (T := TJO) (N := 5) inJO 0 rfl rfl 4 (by decide) xh_1_50 (v := .int (nI 0)) rfl dJO_write_30 ?_
  refine lv_iload_n hx hb dJO_write_33 rfl (lv_at hl 2 rfl) ?_
  refine x_iast S hw 1 0 rfl rfl (j := 0) (vp_in_nI (by omega) (by omega)) (nI_clamp (by omega)) (ws' := [(q, .inr (2, [.ref q1, .ref q2, .ref q3, .ref q4, .int (nI 0)])), (q1, .inl (cI, 80, .inl (upd ks 0 kd))), (q2, .inl (cI, 80, .inl ns)), (q3, .inl (cI, 80, .inl ds)), (q4, .inl (cI, 80, .inl ss))]) rfl dJO_write_34 (fun H locs hw => ?_)
  refine lv_aload_n hx hb dJO_write_35 rfl (lv_at hl 1 rfl) ?_
  refine x_get S hw (C := RJO) (T := TJO) (N := 5) inJO 0 rfl rfl 1 (by decide) xh_1_44 (v := .ref q2) rfl dJO_write_36 ?_
  refine lv_aload_n hx hb dJO_write_39 rfl (lv_at hl 1 rfl) ?_
  refine x_get S hw (C := RJO) (T := TJO) (N := 5) inJO 0 rfl rfl 4 (by decide) xh_1_50 (v := .int (nI 0)) rfl dJO_write_40 ?_
  refine lv_iload_n hx hb dJO_write_43 rfl (lv_at hl 3 rfl) ?_
  refine x_iast S hw 2 0 rfl rfl (j := 0) (vp_in_nI (by omega) (by omega)) (nI_clamp (by omega)) (ws' := [(q, .inr (2, [.ref q1, .ref q2, .ref q3, .ref q4, .int (nI 0)])), (q1, .inl (cI, 80, .inl (upd ks 0 kd))), (q2, .inl (cI, 80, .inl (upd ns 0 nm))), (q3, .inl (cI, 80, .inl ds)), (q4, .inl (cI, 80, .inl ss))]) rfl dJO_write_44 (fun H locs hw => ?_)
  refine lv_aload_n hx hb dJO_write_45 rfl (lv_at hl 1 rfl) ?_
  refine x_get S hw (C := RJO) (T := TJO) (N := 5) inJO 0 rfl rfl 2 (by decide) xh_1_46 (v := .ref q3) rfl dJO_write_46 ?_
  refine lv_aload_n hx hb dJO_write_49 rfl (lv_at hl 1 rfl) ?_
  refine x_get S hw (C := RJO) (T := TJO) (N := 5) inJO 0 rfl rfl 4 (by decide) xh_1_50 (v := .int (nI 0)) rfl dJO_write_50 ?_
  refine lv_iload_n hx hb dJO_write_53 rfl (lv_at hl 4 rfl) ?_
  refine x_iast S hw 3 0 rfl rfl (j := 0) (vp_in_nI (by omega) (by omega)) (nI_clamp (by omega)) (ws' := [(q, .inr (2, [.ref q1, .ref q2, .ref q3, .ref q4, .int (nI 0)])), (q1, .inl (cI, 80, .inl (upd ks 0 kd))), (q2, .inl (cI, 80, .inl (upd ns 0 nm))), (q3, .inl (cI, 80, .inl (upd ds 0 dt))), (q4, .inl (cI, 80, .inl ss))]) rfl dJO_write_54 (fun H locs hw => ?_)
  refine lv_aload_n hx hb dJO_write_55 rfl (lv_at hl 1 rfl) ?_
  refine x_get S hw (C := RJO) (T := TJO) (N := 5) inJO 0 rfl rfl 3 (by decide) xh_1_48 (v := .ref q4) rfl dJO_write_56 ?_
  refine lv_aload_n hx hb dJO_write_59 rfl (lv_at hl 1 rfl) ?_
  refine x_get S hw (C := RJO) (T := TJO) (N := 5) inJO 0 rfl rfl 4 (by decide) xh_1_50 (v := .int (nI 0)) rfl dJO_write_60 ?_
  refine lv_iload hx hb dJO_write_63 (lv_at hl 0 rfl) ?_
  refine lv_iload_n hx hb dJO_write_65 rfl (lv_at hl 2 rfl) ?_
  refine x_calliD (ws' := [(q, .inr (2, [.ref q1, .ref q2, .ref q3, .ref q4, .int (nI 0)])), (q1, .inl (cI, 80, .inl (upd ks 0 kd))), (q2, .inl (cI, 80, .inl (upd ns 0 nm))), (q3, .inl (cI, 80, .inl (upd ds 0 dt))), (q4, .inl (cI, 80, .inl ss))]) hw [] rfl rfl (x_runSN (n := 2) (rest := [.int (nI 0), .ref q4]) (As := [.int 7, .int kd]) S hw (k_mix l D cI cZ cV 7 kd _) xh_1_211 xh_1_209 xh_1_210 xh_1_1 (by decide +kernel) ⟨by decide, by decide⟩ [] rfl rfl rfl hl.1 rfl (Nat.le_of_ble_eq_true rfl) dJO_write_66 ⟨by decide, by decide⟩) rfl rfl (fun H locs hw => ?_)
  refine lv_iload_n hx hb dJO_write_69 rfl (lv_at hl 3 rfl) ?_
  refine x_calliD (ws' := [(q, .inr (2, [.ref q1, .ref q2, .ref q3, .ref q4, .int (nI 0)])), (q1, .inl (cI, 80, .inl (upd ks 0 kd))), (q2, .inl (cI, 80, .inl (upd ns 0 nm))), (q3, .inl (cI, 80, .inl (upd ds 0 dt))), (q4, .inl (cI, 80, .inl ss))]) hw [] rfl rfl (x_runSN (n := 2) (rest := [.int (nI 0), .ref q4]) (As := [.int (fMix 7 kd), .int nm]) S hw (k_mix l D cI cZ cV (fMix 7 kd) nm _) xh_1_211 xh_1_209 xh_1_210 xh_1_1 (by decide +kernel) ⟨by decide, by decide⟩ [] rfl rfl rfl hl.1 rfl (Nat.le_of_ble_eq_true rfl) dJO_write_70 ⟨by decide, by decide⟩) rfl rfl (fun H locs hw => ?_)
  refine lv_iload_n hx hb dJO_write_73 rfl (lv_at hl 4 rfl) ?_
  refine x_calliD (ws' := [(q, .inr (2, [.ref q1, .ref q2, .ref q3, .ref q4, .int (nI 0)])), (q1, .inl (cI, 80, .inl (upd ks 0 kd))), (q2, .inl (cI, 80, .inl (upd ns 0 nm))), (q3, .inl (cI, 80, .inl (upd ds 0 dt))), (q4, .inl (cI, 80, .inl ss))]) hw [] rfl rfl (x_runSN (n := 2) (rest := [.int (nI 0), .ref q4]) (As := [.int (fMix (fMix 7 kd) nm), .int dt]) S hw (k_mix l D cI cZ cV (fMix (fMix 7 kd) nm) dt _) xh_1_211 xh_1_209 xh_1_210 xh_1_1 (by decide +kernel) ⟨by decide, by decide⟩ [] rfl rfl rfl hl.1 rfl (Nat.le_of_ble_eq_true rfl) dJO_write_74 ⟨by decide, by decide⟩) rfl rfl (fun H locs hw => ?_)
  refine x_iast S hw 4 0 rfl rfl (j := 0) (vp_in_nI (by omega) (by omega)) (nI_clamp (by omega)) (ws' := [(q, .inr (2, [.ref q1, .ref q2, .ref q3, .ref q4, .int (nI 0)])), (q1, .inl (cI, 80, .inl (upd ks 0 kd))), (q2, .inl (cI, 80, .inl (upd ns 0 nm))), (q3, .inl (cI, 80, .inl (upd ds 0 dt))), (q4, .inl (cI, 80, .inl (upd ss 0 (fMix (fMix (fMix 7 kd) nm) dt))))]) rfl dJO_write_77 (fun H locs hw => ?_)
  refine lv_aload_n hx hb dJO_write_78 rfl (lv_at hl 1 rfl) ?_
  refine lv_dup hx hb dJO_write_79 rfl ?_
  refine x_get S hw (C := RJO) (T := TJO) (N := 5) inJO 0 rfl rfl 4 (by decide) xh_1_50 (v := .int (nI 0)) rfl dJO_write_80 ?_
  refine lv_iconst (v := 1) hx hb dJO_write_83 (by decide) ?_
  refine lv_iadd hx hb dJO_write_84 ?_
  refine x_topi (y := nI (0 + 1)) ((nI_succ 0).symm) ?_
  refine x_put S hw (C := RJO) (T := TJO) (N := 5) inJO tyJO tyJO_ok nmJO 0 rfl rfl 4 (by decide) xh_1_50 rfl (v := .int (nI (0 + 1))) rfl rfl (Nat.le_of_ble_eq_true rfl) (ws' := [(q, .inr (2, [.ref q1, .ref q2, .ref q3, .ref q4, .int (nI (0 + 1))])), (q1, .inl (cI, 80, .inl (upd ks 0 kd))), (q2, .inl (cI, 80, .inl (upd ns 0 nm))), (q3, .inl (cI, 80, .inl (upd ds 0 dt))), (q4, .inl (cI, 80, .inl (upd ss 0 (fMix (fMix (fMix 7 kd) nm) dt))))]) rfl dJO_write_85 (fun H locs hw => ?_)
  exact x_vret S hr hlk hw (by decide) (by decide) (rfl) dJO_write_88

set_option maxHeartbeats 4000000 in
set_option maxRecDepth 100000 in
theorem k_writeS (l : Launch) (D : va_G) (cI cZ cV : ClassId) (q : Nat) (q1 : Nat) (q2 : Nat) (q3 : Nat) (q4 : Nat) (ks : Nat → Int32) (ns : Nat → Int32) (ds : Nat → Int32) (ss : Nat → Int32) (c0 : Nat) (kd : Int32) (nm : Int32) (dt : Int32) (hc : c0 + 1 < 80) : XV l yJO_write cJO_write 5 none D (xT3 cI cZ cV) 1 0 0 [.ref q, .int kd, .int nm, .int dt] [(q, .inr (2, [.ref q1, .ref q2, .ref q3, .ref q4, .int (nI (c0 + 1))])), (q1, .inl (cI, 80, .inl ks)), (q2, .inl (cI, 80, .inl ns)), (q3, .inl (cI, 80, .inl ds)), (q4, .inl (cI, 80, .inl ss))] (fun u => u = [(q, .inr (2, [.ref q1, .ref q2, .ref q3, .ref q4, .int (nI ((c0 + 1) + 1))])), (q1, .inl (cI, 80, .inl (upd ks (c0 + 1) kd))), (q2, .inl (cI, 80, .inl (upd ns (c0 + 1) nm))), (q3, .inl (cI, 80, .inl (upd ds (c0 + 1) dt))), (q4, .inl (cI, 80, .inl (upd ss (c0 + 1) (fMix (fMix (fMix (ss c0) kd) nm) dt))))]) := by
  intro sz
  refine x_ofW (Qc := fun A => va_Qv _ (xB D A) A) sz (by decide) (Nat.le_of_ble_eq_true rfl) ?_
  intro p e s m args below meth c A ls S hr hlk hnm hw hl
  obtain ⟨hx, hb, hml, hown, hts⟩ := id S
  have hl : lv_has ls 5 [(0, .ref q), (1, .int kd), (2, .int nm), (3, .int dt)] := hl
  refine lv_aload_n hx hb dJO_write_0 rfl (lv_at hl 0 rfl) ?_
  refine x_get S hw (C := RJO) (T := TJO) (N := 5) inJO 0 rfl rfl 4 (by decide) xh_1_50 (v := .int (nI (c0 + 1))) rfl dJO_write_1 ?_
  refine lv_if_ne (tgt := 12) hx hb dJO_write_4 (by decide) (fun h4 => ?_) (fun h4 => absurd h4 (nI_ne0 (n := c0 + 1) (by omega) (by omega)))
  refine lv_aload_n hx hb dJO_write_12 rfl (lv_at hl 0 rfl) ?_
  refine x_get S hw (C := RJO) (T := TJO) (N := 5) inJO 0 rfl rfl 3 (by decide) xh_1_48 (v := .ref q4) rfl dJO_write_13 ?_
  refine lv_aload_n hx hb dJO_write_16 rfl (lv_at hl 0 rfl) ?_
  refine x_get S hw (C := RJO) (T := TJO) (N := 5) inJO 0 rfl rfl 4 (by decide) xh_1_50 (v := .int (nI (c0 + 1))) rfl dJO_write_17 ?_
  refine lv_iconst (v := 1) hx hb dJO_write_20 (by decide) ?_
  refine lv_isub hx hb dJO_write_21 ?_
  refine x_topi (y := nI c0) (nI_pred c0) ?_
  refine x_iald S hw 4 0 rfl rfl (j := c0) (vp_in_nI (by omega) (by omega)) (nI_clamp (by omega)) dJO_write_22 ?_
  refine lv_istore (lv' := [(4, .int (ss c0)), (0, .ref q), (1, .int kd), (2, .int nm), (3, .int dt)]) hx hb dJO_write_23 hl (by decide) rfl (fun ls hl => ?_)
  refine lv_aload_n hx hb dJO_write_25 rfl (lv_at hl 1 rfl) ?_
  refine x_get S hw (C := RJO) (T := TJO) (N := 5) inJO 0 rfl rfl 0 (by decide) xh_1_42 (v := .ref q1) rfl dJO_write_26 ?_
  refine lv_aload_n hx hb dJO_write_29 rfl (lv_at hl 1 rfl) ?_
  refine x_get S hw (C := RJO) (T := TJO) (N := 5) inJO 0 rfl rfl 4 (by decide) xh_1_50 (v := .int (nI (c0 + 1))) rfl dJO_write_30 ?_
  refine lv_iload_n hx hb dJO_write_33 rfl (lv_at hl 2 rfl) ?_
  refine x_iast S hw 1 0 rfl rfl (j := (c0 + 1)) (vp_in_nI (by omega) (by omega)) (nI_clamp (by omega)) (ws' := [(q, .inr (2, [.ref q1, .ref q2, .ref q3, .ref q4, .int (nI (c0 + 1))])), (q1, .inl (cI, 80, .inl (upd ks (c0 + 1) kd))), (q2, .inl (cI, 80, .inl ns)), (q3, .inl (cI, 80, .inl ds)), (q4, .inl (cI, 80, .inl ss))]) rfl dJO_write_34 (fun H locs hw => ?_)
  refine lv_aload_n hx hb dJO_write_35 rfl (lv_at hl 1 rfl) ?_
  refine x_get S hw (C := RJO) (T := TJO) (N := 5) inJO 0 rfl rfl 1 (by decide) xh_1_44 (v := .ref q2) rfl dJO_write_36 ?_
  refine lv_aload_n hx hb dJO_write_39 rfl (lv_at hl 1 rfl) ?_
  refine x_get S hw (C := RJO) (T := TJO) (N := 5) inJO 0 rfl rfl 4 (by decide) xh_1_50 (v := .int (nI (c0 + 1))) rfl dJO_write_40 ?_
  refine lv_iload_n hx hb dJO_write_43 rfl (lv_at hl 3 rfl) ?_
  refine x_iast S hw 2 0 rfl rfl (j := (c0 + 1)) (vp_in_nI (by omega) (by omega)) (nI_clamp (by omega)) (ws' := [(q, .inr (2, [.ref q1, .ref q2, .ref q3, .ref q4, .int (nI (c0 + 1))])), (q1, .inl (cI, 80, .inl (upd ks (c0 + 1) kd))), (q2, .inl (cI, 80, .inl (upd ns (c0 + 1) nm))), (q3, .inl (cI, 80, .inl ds)), (q4, .inl (cI, 80, .inl ss))]) rfl dJO_write_44 (fun H locs hw => ?_)
  refine lv_aload_n hx hb dJO_write_45 rfl (lv_at hl 1 rfl) ?_
  refine x_get S hw (C := RJO) (T := TJO) (N := 5) inJO 0 rfl rfl 2 (by decide) xh_1_46 (v := .ref q3) rfl dJO_write_46 ?_
  refine lv_aload_n hx hb dJO_write_49 rfl (lv_at hl 1 rfl) ?_
  refine x_get S hw (C := RJO) (T := TJO) (N := 5) inJO 0 rfl rfl 4 (by decide) xh_1_50 (v := .int (nI (c0 + 1))) rfl dJO_write_50 ?_
  refine lv_iload_n hx hb dJO_write_53 rfl (lv_at hl 4 rfl) ?_
  refine x_iast S hw 3 0 rfl rfl (j := (c0 + 1)) (vp_in_nI (by omega) (by omega)) (nI_clamp (by omega)) (ws' := [(q, .inr (2, [.ref q1, .ref q2, .ref q3, .ref q4, .int (nI (c0 + 1))])), (q1, .inl (cI, 80, .inl (upd ks (c0 + 1) kd))), (q2, .inl (cI, 80, .inl (upd ns (c0 + 1) nm))), (q3, .inl (cI, 80, .inl (upd ds (c0 + 1) dt))), (q4, .inl (cI, 80, .inl ss))]) rfl dJO_write_54 (fun H locs hw => ?_)
  refine lv_aload_n hx hb dJO_write_55 rfl (lv_at hl 1 rfl) ?_
  refine x_get S hw (C := RJO) (T := TJO) (N := 5) inJO 0 rfl rfl 3 (by decide) xh_1_48 (v := .ref q4) rfl dJO_write_56 ?_
  refine lv_aload_n hx hb dJO_write_59 rfl (lv_at hl 1 rfl) ?_
  refine x_get S hw (C := RJO) (T := TJO) (N := 5) inJO 0 rfl rfl 4 (by decide) xh_1_50 (v := .int (nI (c0 + 1))) rfl dJO_write_60 ?_
  refine lv_iload hx hb dJO_write_63 (lv_at hl 0 rfl) ?_
  refine lv_iload_n hx hb dJO_write_65 rfl (lv_at hl 2 rfl) ?_
  refine x_calliD (ws' := [(q, .inr (2, [.ref q1, .ref q2, .ref q3, .ref q4, .int (nI (c0 + 1))])), (q1, .inl (cI, 80, .inl (upd ks (c0 + 1) kd))), (q2, .inl (cI, 80, .inl (upd ns (c0 + 1) nm))), (q3, .inl (cI, 80, .inl (upd ds (c0 + 1) dt))), (q4, .inl (cI, 80, .inl ss))]) hw [] rfl rfl (x_runSN (n := 2) (rest := [.int (nI (c0 + 1)), .ref q4]) (As := [.int (ss c0), .int kd]) S hw (k_mix l D cI cZ cV (ss c0) kd _) xh_1_211 xh_1_209 xh_1_210 xh_1_1 (by decide +kernel) ⟨by decide, by decide⟩ [] rfl rfl rfl hl.1 rfl (Nat.le_of_ble_eq_true rfl) dJO_write_66 ⟨by decide, by decide⟩) rfl rfl (fun H locs hw => ?_)
  refine lv_iload_n hx hb dJO_write_69 rfl (lv_at hl 3 rfl) ?_
  refine x_calliD (ws' := [(q, .inr (2, [.ref q1, .ref q2, .ref q3, .ref q4, .int (nI (c0 + 1))])), (q1, .inl (cI, 80, .inl (upd ks (c0 + 1) kd))), (q2, .inl (cI, 80, .inl (upd ns (c0 + 1) nm))), (q3, .inl (cI, 80, .inl (upd ds (c0 + 1) dt))), (q4, .inl (cI, 80, .inl ss))]) hw [] rfl rfl (x_runSN (n := 2) (rest := [.int (nI (c0 + 1)), .ref q4]) (As := [.int (fMix (ss c0) kd), .int nm]) S hw (k_mix l D cI cZ cV (fMix (ss c0) kd) nm _) xh_1_211 xh_1_209 xh_1_210 xh_1_1 (by decide +kernel) ⟨by decide, by decide⟩ [] rfl rfl rfl hl.1 rfl (Nat.le_of_ble_eq_true rfl) dJO_write_70 ⟨by decide, by decide⟩) rfl rfl (fun H locs hw => ?_)
  refine lv_iload_n hx hb dJO_write_73 rfl (lv_at hl 4 rfl) ?_
  refine x_calliD (ws' := [(q, .inr (2, [.ref q1, .ref q2, .ref q3, .ref q4, .int (nI (c0 + 1))])), (q1, .inl (cI, 80, .inl (upd ks (c0 + 1) kd))), (q2, .inl (cI, 80, .inl (upd ns (c0 + 1) nm))), (q3, .inl (cI, 80, .inl (upd ds (c0 + 1) dt))), (q4, .inl (cI, 80, .inl ss))]) hw [] rfl rfl (x_runSN (n := 2) (rest := [.int (nI (c0 + 1)), .ref q4]) (As := [.int (fMix (fMix (ss c0) kd) nm), .int dt]) S hw (k_mix l D cI cZ cV (fMix (fMix (ss c0) kd) nm) dt _) xh_1_211 xh_1_209 xh_1_210 xh_1_1 (by decide +kernel) ⟨by decide, by decide⟩ [] rfl rfl rfl hl.1 rfl (Nat.le_of_ble_eq_true rfl) dJO_write_74 ⟨by decide, by decide⟩) rfl rfl (fun H locs hw => ?_)
  refine x_iast S hw 4 0 rfl rfl (j := (c0 + 1)) (vp_in_nI (by omega) (by omega)) (nI_clamp (by omega)) (ws' := [(q, .inr (2, [.ref q1, .ref q2, .ref q3, .ref q4, .int (nI (c0 + 1))])), (q1, .inl (cI, 80, .inl (upd ks (c0 + 1) kd))), (q2, .inl (cI, 80, .inl (upd ns (c0 + 1) nm))), (q3, .inl (cI, 80, .inl (upd ds (c0 + 1) dt))), (q4, .inl (cI, 80, .inl (upd ss (c0 + 1) (fMix (fMix (fMix (ss c0) kd) nm) dt))))]) rfl dJO_write_77 (fun H locs hw => ?_)
  refine lv_aload_n hx hb dJO_write_78 rfl (lv_at hl 1 rfl) ?_
  refine lv_dup hx hb dJO_write_79 rfl ?_
  refine x_get S hw (C := RJO) (T := TJO) (N := 5) inJO 0 rfl rfl 4 (by decide) xh_1_50 (v := .int (nI (c0 + 1))) rfl dJO_write_80 ?_
  refine lv_iconst (v := 1) hx hb dJO_write_83 (by decide) ?_
  refine lv_iadd hx hb dJO_write_84 ?_
  refine x_topi (y := nI (c0 + 1 + 1)) ((nI_succ _).symm) ?_
  refine x_put S hw (C := RJO) (T := TJO) (N := 5) inJO tyJO tyJO_ok nmJO 0 rfl rfl 4 (by decide) xh_1_50 rfl (v := .int (nI (c0 + 1 + 1))) rfl rfl (Nat.le_of_ble_eq_true rfl) (ws' := [(q, .inr (2, [.ref q1, .ref q2, .ref q3, .ref q4, .int (nI (c0 + 1 + 1))])), (q1, .inl (cI, 80, .inl (upd ks (c0 + 1) kd))), (q2, .inl (cI, 80, .inl (upd ns (c0 + 1) nm))), (q3, .inl (cI, 80, .inl (upd ds (c0 + 1) dt))), (q4, .inl (cI, 80, .inl (upd ss (c0 + 1) (fMix (fMix (fMix (ss c0) kd) nm) dt))))]) rfl dJO_write_85 (fun H locs hw => ?_)
  exact x_vret S hr hlk hw (by decide) (by decide) (rfl) dJO_write_88

theorem k_write (l : Launch) (D : va_G) (cI cZ cV : ClassId) (q : Nat) (q1 : Nat) (q2 : Nat) (q3 : Nat) (q4 : Nat) (ks : Nat → Int32) (ns : Nat → Int32) (ds : Nat → Int32) (ss : Nat → Int32) (c0 : Nat) (kd : Int32) (nm : Int32) (dt : Int32) (hc : c0 < 80) : XV l yJO_write cJO_write 5 none D (xT3 cI cZ cV) 1 0 0 [.ref q, .int kd, .int nm, .int dt] [(q, .inr (2, [.ref q1, .ref q2, .ref q3, .ref q4, .int (nI c0)])), (q1, .inl (cI, 80, .inl ks)), (q2, .inl (cI, 80, .inl ns)), (q3, .inl (cI, 80, .inl ds)), (q4, .inl (cI, 80, .inl ss))] (fun u => u = [(q, .inr (2, [.ref q1, .ref q2, .ref q3, .ref q4, .int (nI (c0 + 1))])), (q1, .inl (cI, 80, .inl (upd ks c0 kd))), (q2, .inl (cI, 80, .inl (upd ns c0 nm))), (q3, .inl (cI, 80, .inl (upd ds c0 dt))), (q4, .inl (cI, 80, .inl (upd ss c0 (fMix (fMix (fMix (jBef ss c0) kd) nm) dt))))]) := by
  cases c0 with
  | zero => exact k_write0 l D cI cZ cV q q1 q2 q3 q4 ks ns ds ss kd nm dt
  | succ c0 => exact k_writeS l D cI cZ cV q q1 q2 q3 q4 ks ns ds ss c0 kd nm dt hc

set_option maxHeartbeats 4000000 in
set_option maxRecDepth 100000 in
theorem k_put_no (l : Launch) (D : va_G) (cI cZ cV : ClassId) (q : Nat) (q1 : Nat) (bs : Nat → Int32) (z0 : Nat) (k : Int32) (b : Int32) (h : k < 0 ∨ nI z0 < k ∨ 16 ≤ k ∨ fIsB b = 0) : XI l yEN_put cEN_put 3 (some .boolean) D (xT3 cI cZ cV) 1 0 0 [.ref q, .int k, .int b] [(q, .inr (1, [.ref q1, .int (nI z0)])), (q1, .inl (cI, 16, .inl bs))] (fun r u => r = 0 ∧ u = [(q, .inr (1, [.ref q1, .int (nI z0)])), (q1, .inl (cI, 16, .inl bs))]) := by
  intro sz
  refine x_ofW (Qc := fun A => va_Qi _ (xB D A) A) sz (by decide) (Nat.le_of_ble_eq_true rfl) ?_
  intro p e s m args below meth c A ls S hr hlk hnm hw hl
  obtain ⟨hx, hb, hml, hown, hts⟩ := id S
  have hl : lv_has ls 3 [(0, .ref q), (1, .int k), (2, .int b)] := hl
  refine lv_iload_n hx hb dEN_put_0 rfl (lv_at hl 1 rfl) ?_
  refine lv_if_lt (tgt := 25) hx hb dEN_put_1 (by decide) (fun h1 => ?_) (fun h1 => ?_)
  · skip
    refine lv_iconst (v := 0) hx hb dEN_put_25 (by decide) ?_
    exact x_zret S hr hlk hw (by decide) (by decide) rfl (⟨rfl, rfl⟩) dEN_put_26
  refine lv_iload_n hx hb dEN_put_4 rfl (lv_at hl 1 rfl) ?_
  refine lv_aload_n hx hb dEN_put_5 rfl (lv_at hl 0 rfl) ?_
  refine x_get S hw (C := REN) (T := TEN) (N := 2) inEN 0 rfl rfl 1 (by decide) xh_1_71 (v := .int (nI z0)) rfl dEN_put_6 ?_
  refine lv_icmp_gt (tgt := 25) hx hb dEN_put_9 (by decide) (fun h9 => ?_) (fun h9 => ?_)
  · skip
    refine lv_iconst (v := 0) hx hb dEN_put_25 (by decide) ?_
    exact x_zret S hr hlk hw (by decide) (by decide) rfl (⟨rfl, rfl⟩) dEN_put_26
  refine lv_iload_n hx hb dEN_put_12 rfl (lv_at hl 1 rfl) ?_
  refine lv_bipush (v := 16) hx hb dEN_put_13 (by decide) ?_
  refine lv_icmp_ge (tgt := 25) hx hb dEN_put_15 (by decide) (fun h15 => ?_) (fun h15 => ?_)
  · skip
    refine lv_iconst (v := 0) hx hb dEN_put_25 (by decide) ?_
    exact x_zret S hr hlk hw (by decide) (by decide) rfl (⟨rfl, rfl⟩) dEN_put_26
  refine lv_iload_n hx hb dEN_put_18 rfl (lv_at hl 2 rfl) ?_
  refine x_calliD (ws' := [(q, .inr (1, [.ref q1, .int (nI z0)])), (q1, .inl (cI, 16, .inl bs))]) hw [] rfl rfl (x_runSN (n := 1) (rest := []) (As := [.int b]) S hw (k_isB l D cI cZ cV b _) xh_1_130 xh_2_87 xh_1_129 xh_1_1 (by decide +kernel) ⟨by decide, by decide⟩ [] rfl rfl rfl hl.1 rfl (Nat.le_of_ble_eq_true rfl) dEN_put_19 ⟨by decide, by decide⟩) rfl rfl (fun H locs hw => ?_)
  refine lv_if_ne (tgt := 27) hx hb dEN_put_22 (by decide) (fun h22 => ?_) (fun h22 => ?_)
  · skip
    exact False.elim (by rcases h with h | h | h | h <;> contradiction)
  refine lv_iconst (v := 0) hx hb dEN_put_25 (by decide) ?_
  exact x_zret S hr hlk hw (by decide) (by decide) rfl (⟨rfl, rfl⟩) dEN_put_26

set_option maxHeartbeats 4000000 in
set_option maxRecDepth 100000 in
theorem k_put_in (l : Launch) (D : va_G) (cI cZ cV : ClassId) (q : Nat) (q1 : Nat) (bs : Nat → Int32) (z0 : Nat) (j : Nat) (b : Int32) (hj : j < z0) (hz : z0 ≤ 16) (hby : ¬ fIsB b = 0) : XI l yEN_put cEN_put 3 (some .boolean) D (xT3 cI cZ cV) 1 0 0 [.ref q, .int (nI j), .int b] [(q, .inr (1, [.ref q1, .int (nI z0)])), (q1, .inl (cI, 16, .inl bs))] (fun r u => r = 1 ∧ u = [(q, .inr (1, [.ref q1, .int (nI z0)])), (q1, .inl (cI, 16, .inl (upd bs j b)))]) := by
  intro sz
  refine x_ofW (Qc := fun A => va_Qi _ (xB D A) A) sz (by decide) (Nat.le_of_ble_eq_true rfl) ?_
  intro p e s m args below meth c A ls S hr hlk hnm hw hl
  obtain ⟨hx, hb, hml, hown, hts⟩ := id S
  have hl : lv_has ls 3 [(0, .ref q), (1, .int (nI j)), (2, .int b)] := hl
  refine lv_iload_n hx hb dEN_put_0 rfl (lv_at hl 1 rfl) ?_
  refine lv_if_lt (tgt := 25) hx hb dEN_put_1 (by decide) (fun h1 => absurd h1 (nI_pos (by omega))) (fun h1 => ?_)
  refine lv_iload_n hx hb dEN_put_4 rfl (lv_at hl 1 rfl) ?_
  refine lv_aload_n hx hb dEN_put_5 rfl (lv_at hl 0 rfl) ?_
  refine x_get S hw (C := REN) (T := TEN) (N := 2) inEN 0 rfl rfl 1 (by decide) xh_1_71 (v := .int (nI z0)) rfl dEN_put_6 ?_
  refine lv_icmp_gt (tgt := 25) hx hb dEN_put_9 (by decide) (fun h9 => absurd h9 (nI_nlt (by omega) (by omega))) (fun h9 => ?_)
  refine lv_iload_n hx hb dEN_put_12 rfl (lv_at hl 1 rfl) ?_
  refine lv_bipush (v := 16) hx hb dEN_put_13 (by decide) ?_
  refine lv_icmp_ge (tgt := 25) hx hb dEN_put_15 (by decide) (fun h15 => absurd h15 (nI_ge (b := 16) (by omega) (by decide))) (fun h15 => ?_)
  refine lv_iload_n hx hb dEN_put_18 rfl (lv_at hl 2 rfl) ?_
  refine x_calliD (ws' := [(q, .inr (1, [.ref q1, .int (nI z0)])), (q1, .inl (cI, 16, .inl bs))]) hw [] rfl rfl (x_runSN (n := 1) (rest := []) (As := [.int b]) S hw (k_isB l D cI cZ cV b _) xh_1_130 xh_2_87 xh_1_129 xh_1_1 (by decide +kernel) ⟨by decide, by decide⟩ [] rfl rfl rfl hl.1 rfl (Nat.le_of_ble_eq_true rfl) dEN_put_19 ⟨by decide, by decide⟩) rfl rfl (fun H locs hw => ?_)
  refine lv_if_ne (tgt := 27) hx hb dEN_put_22 (by decide) (fun h22 => ?_) (fun h22 => absurd h22 hby)
  refine lv_aload_n hx hb dEN_put_27 rfl (lv_at hl 0 rfl) ?_
  refine x_get S hw (C := REN) (T := TEN) (N := 2) inEN 0 rfl rfl 0 (by decide) xh_1_69 (v := .ref q1) rfl dEN_put_28 ?_
  refine lv_iload_n hx hb dEN_put_31 rfl (lv_at hl 1 rfl) ?_
  refine lv_iload_n hx hb dEN_put_32 rfl (lv_at hl 2 rfl) ?_
  refine x_iast S hw 1 0 rfl rfl (j := j) (vp_in_nI (by omega) (by omega)) (nI_clamp (by omega)) (ws' := [(q, .inr (1, [.ref q1, .int (nI z0)])), (q1, .inl (cI, 16, .inl (upd bs j b)))]) rfl dEN_put_33 (fun H locs hw => ?_)
  refine lv_iload_n hx hb dEN_put_34 rfl (lv_at hl 1 rfl) ?_
  refine lv_aload_n hx hb dEN_put_35 rfl (lv_at hl 0 rfl) ?_
  refine x_get S hw (C := REN) (T := TEN) (N := 2) inEN 0 rfl rfl 1 (by decide) xh_1_71 (v := .int (nI z0)) rfl dEN_put_36 ?_
  refine lv_icmp_ne (tgt := 52) hx hb dEN_put_39 (by decide) (fun h39 => ?_) (fun h39 => absurd h39 (fun e => by have := (nI_eq (by omega) (by omega)).mp e; omega))
  refine lv_iconst (v := 1) hx hb dEN_put_52 (by decide) ?_
  exact x_zret S hr hlk hw (by decide) (by decide) rfl (⟨rfl, rfl⟩) dEN_put_53

set_option maxHeartbeats 4000000 in
set_option maxRecDepth 100000 in
theorem k_put_end (l : Launch) (D : va_G) (cI cZ cV : ClassId) (q : Nat) (q1 : Nat) (bs : Nat → Int32) (z0 : Nat) (b : Int32) (hz : z0 < 16) (hby : ¬ fIsB b = 0) : XI l yEN_put cEN_put 3 (some .boolean) D (xT3 cI cZ cV) 1 0 0 [.ref q, .int (nI z0), .int b] [(q, .inr (1, [.ref q1, .int (nI z0)])), (q1, .inl (cI, 16, .inl bs))] (fun r u => r = 1 ∧ u = [(q, .inr (1, [.ref q1, .int (nI (z0 + 1))])), (q1, .inl (cI, 16, .inl (upd bs z0 b)))]) := by
  intro sz
  refine x_ofW (Qc := fun A => va_Qi _ (xB D A) A) sz (by decide) (Nat.le_of_ble_eq_true rfl) ?_
  intro p e s m args below meth c A ls S hr hlk hnm hw hl
  obtain ⟨hx, hb, hml, hown, hts⟩ := id S
  have hl : lv_has ls 3 [(0, .ref q), (1, .int (nI z0)), (2, .int b)] := hl
  refine lv_iload_n hx hb dEN_put_0 rfl (lv_at hl 1 rfl) ?_
  refine lv_if_lt (tgt := 25) hx hb dEN_put_1 (by decide) (fun h1 => absurd h1 (nI_pos (by omega))) (fun h1 => ?_)
  refine lv_iload_n hx hb dEN_put_4 rfl (lv_at hl 1 rfl) ?_
  refine lv_aload_n hx hb dEN_put_5 rfl (lv_at hl 0 rfl) ?_
  refine x_get S hw (C := REN) (T := TEN) (N := 2) inEN 0 rfl rfl 1 (by decide) xh_1_71 (v := .int (nI z0)) rfl dEN_put_6 ?_
  refine lv_icmp_gt (tgt := 25) hx hb dEN_put_9 (by decide) (fun h9 => absurd h9 (nI_nlt (by omega) (by omega))) (fun h9 => ?_)
  refine lv_iload_n hx hb dEN_put_12 rfl (lv_at hl 1 rfl) ?_
  refine lv_bipush (v := 16) hx hb dEN_put_13 (by decide) ?_
  refine lv_icmp_ge (tgt := 25) hx hb dEN_put_15 (by decide) (fun h15 => absurd h15 (nI_ge (b := 16) (by omega) (by decide))) (fun h15 => ?_)
  refine lv_iload_n hx hb dEN_put_18 rfl (lv_at hl 2 rfl) ?_
  refine x_calliD (ws' := [(q, .inr (1, [.ref q1, .int (nI z0)])), (q1, .inl (cI, 16, .inl bs))]) hw [] rfl rfl (x_runSN (n := 1) (rest := []) (As := [.int b]) S hw (k_isB l D cI cZ cV b _) xh_1_130 xh_2_87 xh_1_129 xh_1_1 (by decide +kernel) ⟨by decide, by decide⟩ [] rfl rfl rfl hl.1 rfl (Nat.le_of_ble_eq_true rfl) dEN_put_19 ⟨by decide, by decide⟩) rfl rfl (fun H locs hw => ?_)
  refine lv_if_ne (tgt := 27) hx hb dEN_put_22 (by decide) (fun h22 => ?_) (fun h22 => absurd h22 hby)
  refine lv_aload_n hx hb dEN_put_27 rfl (lv_at hl 0 rfl) ?_
  refine x_get S hw (C := REN) (T := TEN) (N := 2) inEN 0 rfl rfl 0 (by decide) xh_1_69 (v := .ref q1) rfl dEN_put_28 ?_
  refine lv_iload_n hx hb dEN_put_31 rfl (lv_at hl 1 rfl) ?_
  refine lv_iload_n hx hb dEN_put_32 rfl (lv_at hl 2 rfl) ?_
  refine x_iast S hw 1 0 rfl rfl (j := z0) (vp_in_nI (by omega) (by omega)) (nI_clamp (by omega)) (ws' := [(q, .inr (1, [.ref q1, .int (nI z0)])), (q1, .inl (cI, 16, .inl (upd bs z0 b)))]) rfl dEN_put_33 (fun H locs hw => ?_)
  refine lv_iload_n hx hb dEN_put_34 rfl (lv_at hl 1 rfl) ?_
  refine lv_aload_n hx hb dEN_put_35 rfl (lv_at hl 0 rfl) ?_
  refine x_get S hw (C := REN) (T := TEN) (N := 2) inEN 0 rfl rfl 1 (by decide) xh_1_71 (v := .int (nI z0)) rfl dEN_put_36 ?_
  refine lv_icmp_ne (tgt := 52) hx hb dEN_put_39 (by decide) (fun h39 => absurd rfl h39) (fun h39 => ?_)
  refine lv_aload_n hx hb dEN_put_42 rfl (lv_at hl 0 rfl) ?_
  refine lv_dup hx hb dEN_put_43 rfl ?_
  refine x_get S hw (C := REN) (T := TEN) (N := 2) inEN 0 rfl rfl 1 (by decide) xh_1_71 (v := .int (nI z0)) rfl dEN_put_44 ?_
  refine lv_iconst (v := 1) hx hb dEN_put_47 (by decide) ?_
  refine lv_iadd hx hb dEN_put_48 ?_
  refine x_topi (y := nI (z0 + 1)) ((nI_succ _).symm) ?_
  refine x_put S hw (C := REN) (T := TEN) (N := 2) inEN tyEN tyEN_ok nmEN 0 rfl rfl 1 (by decide) xh_1_71 rfl (v := .int (nI (z0 + 1))) rfl rfl (Nat.le_of_ble_eq_true rfl) (ws' := [(q, .inr (1, [.ref q1, .int (nI (z0 + 1))])), (q1, .inl (cI, 16, .inl (upd bs z0 b)))]) rfl dEN_put_49 (fun H locs hw => ?_)
  refine lv_iconst (v := 1) hx hb dEN_put_52 (by decide) ?_
  exact x_zret S hr hlk hw (by decide) (by decide) rfl (⟨rfl, rfl⟩) dEN_put_53

set_option maxHeartbeats 4000000 in
set_option maxRecDepth 100000 in
theorem lp_putBehind {p : Program} {l : Launch} {e : Env} {s : State} {m : MethodId} {args : Array Value} {below : List Frame} {meth : Method} {c : Code} {Q : State → Prop} {D : va_G} {A : Nat → Prop} {cI cZ cV : ClassId} {H0 : Heap} {R : Room} {cells slots : Nat} (hR : R = (xR 2 0 0)) (hC : cells = 0 ∧ slots = 0) (S : CallFix p m c cEN_putBehind 4 s args xAll "EscrowedVersions$Envelope") (q : Nat) (q1 : Nat) (bs : Nat → Int32) (z0 : Nat) (m0 : Nat) (x : Int32) (hz : z0 + m0 ≤ 16)
    (kk : ∀ (ls : Array Slot) (H : Heap) (locs : List Loc), xW D (xT3 cI cZ cV) A H0 H locs [(q, .inr (1, [.ref q1, .int (nI (z0 + m0))])), (q1, .inl (cI, 16, .inl (pbF bs z0 m0 x m0)))] s → lv_has ls 4 [(0, .ref q), (1, .int x), (2, .int (nI m0)), (3, .int (nI 0 + (-1)))] → W p l e R s m args below meth c H locs cells slots Q (F0 m 33 ls [])) :
    ∀ (n k : Nat) (ls : Array Slot) (H : Heap) (locs : List Loc), k + n = m0 → xW D (xT3 cI cZ cV) A H0 H locs [(q, .inr (1, [.ref q1, .int (nI (z0 + k))])), (q1, .inl (cI, 16, .inl (pbF bs z0 m0 x k)))] s → lv_has ls 4 [(0, .ref q), (1, .int x), (2, .int (nI m0)), (3, .int (nI n + (-1)))] → W p l e R s m args below meth c H locs cells slots Q (F0 m 4 ls []) := by
  obtain ⟨hx, hb, hml, hown, hts⟩ := id S
  subst hR
  obtain ⟨rfl, rfl⟩ := hC
  intro n
  induction n with
  | zero =>
    intro k ls H locs hk hw hl
    obtain rfl : m0 = k := by omega
    refine lv_iload_n hx hb dEN_putBehind_4 rfl (lv_at hl 3 rfl) ?_
    refine lv_if_lt (tgt := 33) hx hb dEN_putBehind_5 (by decide) (fun h5 => ?_) (fun h5 => absurd (by decide +kernel) h5)
    exact kk ls H locs hw (lv_sub hl [0, 1, 2, 3] rfl)
  | succ n ih =>
    intro k ls H locs hk hw hl
    have hkN : k < m0 := by omega
    have hl : lv_has ls 4 [(0, .ref q), (1, .int x), (2, .int (nI m0)), (3, .int (nI n))] := by rw [pk_m1] at hl; exact hl
    refine lv_iload_n hx hb dEN_putBehind_4 rfl (lv_at hl 3 rfl) ?_
    refine lv_if_lt (tgt := 33) hx hb dEN_putBehind_5 (by decide) (fun h5 => absurd h5 (nI_pos (by omega))) (fun h5 => ?_)
    refine lv_aload_n hx hb dEN_putBehind_8 rfl (lv_at hl 0 rfl) ?_
    refine lv_aload_n hx hb dEN_putBehind_9 rfl (lv_at hl 0 rfl) ?_
    refine x_get S hw (C := REN) (T := TEN) (N := 2) inEN 0 rfl rfl 1 (by decide) xh_1_71 (v := .int (nI (z0 + k))) rfl dEN_putBehind_10 ?_
    refine lv_iload_n hx hb dEN_putBehind_13 rfl (lv_at hl 1 rfl) ?_
    refine lv_bipush (v := 8) hx hb dEN_putBehind_14 (by decide) ?_
    refine lv_iload_n hx hb dEN_putBehind_16 rfl (lv_at hl 3 rfl) ?_
    refine lv_imul hx hb dEN_putBehind_17 ?_
    refine lv_iushr (v := (xushr x (8 * nI n))) hx hb dEN_putBehind_18 rfl ?_
    refine lv_sipush (v := 255) hx hb dEN_putBehind_19 (by decide) ?_
    refine lv_iand hx hb dEN_putBehind_22 ?_
    refine x_calliD (ws' := [(q, .inr (1, [.ref q1, .int (nI ((z0 + k) + 1))])), (q1, .inl (cI, 16, .inl (upd (pbF bs z0 m0 x k) (z0 + k) ((xushr x (8 * nI n)) &&& 255))))]) hw [0, 1] rfl rfl (x_runV (n := 2) (rest := []) (As := [.int (nI (z0 + k)), .int ((xushr x (8 * nI n)) &&& 255)]) S hw (k_put_end l D cI cZ cV q q1 (pbF bs z0 m0 x k) (z0 + k) ((xushr x (8 * nI n)) &&& 255) (by omega) (fIsB_and _) _) xh_2_86 xh_2_83 xh_2_84 xh_2_85 xh_1_4 (by decide +kernel) ⟨by decide, by decide⟩ [0, 1] rfl rfl (ci := 1) (q0 := 0) rfl rfl rfl hl.1 rfl (Nat.le_of_ble_eq_true rfl) dEN_putBehind_23 ⟨by decide, by decide⟩) rfl rfl (fun H locs hw => ?_)
    refine lv_pop hx hb dEN_putBehind_26 rfl ?_
    refine lv_iinc (v := (nI n) + (-1)) (lv' := [(3, .int ((nI n) + (-1))), (0, .ref q), (1, .int x), (2, .int (nI m0))]) hx hb dEN_putBehind_27 hl (k := 3) rfl (by rw [show Int32.ofInt (-1) = (-1 : Int32) by decide]) (by decide) rfl (fun ls hl => ?_)
    refine lv_goto (tgt := 4) hx hb dEN_putBehind_30 (by decide) ?_
    have e0 : nI n + (-1) = (nI n) + (-1) := by simp only [pbF]
    have e1 : nI (z0 + (k + 1)) = nI (z0 + k + 1) := by rfl
    have e2 : pbF bs z0 m0 x (k + 1) = upd (pbF bs z0 m0 x k) (z0 + k) ((xushr x (8 * nI n)) &&& 255) := by simp only [pbF]; rw [show m0 - 1 - k = n by omega]
    refine ih (k + 1) ls H locs (by omega) ?_ ?_
    · rw [e1, e2]; exact hw
    · rw [e0]; exact lv_sub hl [1, 2, 3, 0] rfl

set_option maxHeartbeats 4000000 in
set_option maxRecDepth 100000 in
theorem k_putBehind (l : Launch) (D : va_G) (cI cZ cV : ClassId) (q : Nat) (q1 : Nat) (bs : Nat → Int32) (z0 : Nat) (m0 : Nat) (x : Int32) (hz : z0 + m0 ≤ 16) : XV l yEN_putBehind cEN_putBehind 4 none D (xT3 cI cZ cV) 2 0 0 [.ref q, .int x, .int (nI m0)] [(q, .inr (1, [.ref q1, .int (nI z0)])), (q1, .inl (cI, 16, .inl bs))] (fun u => u = [(q, .inr (1, [.ref q1, .int (nI (z0 + m0))])), (q1, .inl (cI, 16, .inl (pbF bs z0 m0 x m0)))]) := by
  intro sz
  refine x_ofW (Qc := fun A => va_Qv _ (xB D A) A) sz (by decide) (Nat.le_of_ble_eq_true rfl) ?_
  intro p e s m args below meth c A ls S hr hlk hnm hw hl
  obtain ⟨hx, hb, hml, hown, hts⟩ := id S
  have hl : lv_has ls 4 [(0, .ref q), (1, .int x), (2, .int (nI m0))] := hl
  refine lv_iload_n hx hb dEN_putBehind_0 rfl (lv_at hl 2 rfl) ?_
  refine lv_iconst (v := 1) hx hb dEN_putBehind_1 (by decide) ?_
  refine lv_isub hx hb dEN_putBehind_2 ?_
  refine x_topi (y := nI m0 + (-1)) (Int32.sub_eq_add_neg _ _) ?_
  refine lv_istore_n (lv' := [(3, .int (nI m0 + (-1))), (0, .ref q), (1, .int x), (2, .int (nI m0))]) hx hb dEN_putBehind_3 rfl hl (by decide) rfl (fun ls hl => ?_)
  refine lp_putBehind rfl ⟨rfl, rfl⟩ S q q1 bs z0 m0 x hz (fun ls H locs hw hl => ?_) m0 0 ls _ _ (Nat.zero_add _) hw (lv_sub hl [1, 2, 3, 0] rfl)
  exact x_vret S hr hlk hw (by decide) (by decide) (rfl) dEN_putBehind_33

set_option maxHeartbeats 4000000 in
set_option maxRecDepth 100000 in
theorem lp_number {p : Program} {l : Launch} {e : Env} {s : State} {m : MethodId} {args : Array Value} {below : List Frame} {meth : Method} {c : Code} {Q : State → Prop} {D : va_G} {A : Nat → Prop} {cI cZ cV : ClassId} {H0 : Heap} {R : Room} {cells slots : Nat} (hR : R = (xR 0 0 0)) (hC : cells = 0 ∧ slots = 0) (S : CallFix p m c cEN_number 5 s args xAll "EscrowedVersions$Envelope") (q : Nat) (q1 : Nat) (bs : Nat → Int32) (z0 : Int32) (a0 : Nat) (m0 : Nat) (hz : a0 + m0 ≤ 16)
    (kk : ∀ (ls : Array Slot) (H : Heap) (locs : List Loc), xW D (xT3 cI cZ cV) A H0 H locs [(q, .inr (1, [.ref q1, .int z0])), (q1, .inl (cI, 16, .inl bs))] s → lv_has ls 5 [(0, .ref q), (1, .int (nI a0)), (2, .int (nI m0)), (3, .int (nbF bs a0 m0)), (4, .int (nI (a0 + m0)))] → W p l e R s m args below meth c H locs cells slots Q (F0 m 32 ls [])) :
    ∀ (n k : Nat) (ls : Array Slot) (H : Heap) (locs : List Loc), k + n = m0 → xW D (xT3 cI cZ cV) A H0 H locs [(q, .inr (1, [.ref q1, .int z0])), (q1, .inl (cI, 16, .inl bs))] s → lv_has ls 5 [(0, .ref q), (1, .int (nI a0)), (2, .int (nI m0)), (3, .int (nbF bs a0 k)), (4, .int (nI (a0 + k)))] → W p l e R s m args below meth c H locs cells slots Q (F0 m 5 ls []) := by
  obtain ⟨hx, hb, hml, hown, hts⟩ := id S
  subst hR
  obtain ⟨rfl, rfl⟩ := hC
  intro n
  induction n with
  | zero =>
    intro k ls H locs hk hw hl
    obtain rfl : m0 = k := by omega
    refine lv_iload hx hb dEN_number_5 (lv_at hl 4 rfl) ?_
    refine lv_iload_n hx hb dEN_number_7 rfl (lv_at hl 1 rfl) ?_
    refine lv_iload_n hx hb dEN_number_8 rfl (lv_at hl 2 rfl) ?_
    refine lv_iadd hx hb dEN_number_9 ?_
    refine x_topi (y := nI (a0 + m0)) (nI_add _ _) ?_
    refine lv_icmp_ge (tgt := 32) hx hb dEN_number_10 (by decide) (fun h10 => ?_) (fun h10 => absurd (nI_le (Nat.le_refl _) (by omega)) h10)
    exact kk ls H locs hw (lv_sub hl [0, 1, 2, 3, 4] rfl)
  | succ n ih =>
    intro k ls H locs hk hw hl
    have hkN : k < m0 := by omega
    refine lv_iload hx hb dEN_number_5 (lv_at hl 4 rfl) ?_
    refine lv_iload_n hx hb dEN_number_7 rfl (lv_at hl 1 rfl) ?_
    refine lv_iload_n hx hb dEN_number_8 rfl (lv_at hl 2 rfl) ?_
    refine lv_iadd hx hb dEN_number_9 ?_
    refine x_topi (y := nI (a0 + m0)) (nI_add _ _) ?_
    refine lv_icmp_ge (tgt := 32) hx hb dEN_number_10 (by decide) (fun h10 => absurd h10 (nI_ge (by omega) (by omega))) (fun h10 => ?_)
    refine lv_iload_n hx hb dEN_number_13 rfl (lv_at hl 3 rfl) ?_
    refine lv_bipush (v := 8) hx hb dEN_number_14 (by decide) ?_
    refine lv_ishl hx hb dEN_number_16 ?_
    refine lv_aload_n hx hb dEN_number_17 rfl (lv_at hl 0 rfl) ?_
    refine x_get S hw (C := REN) (T := TEN) (N := 2) inEN 0 rfl rfl 0 (by decide) xh_1_69 (v := .ref q1) rfl dEN_number_18 ?_
    refine lv_iload hx hb dEN_number_21 (lv_at hl 4 rfl) ?_
    refine x_iald S hw 1 0 rfl rfl (j := (a0 + k)) (vp_in_nI (by omega) (by omega)) (nI_clamp (by omega)) dEN_number_23 ?_
    refine lv_ior hx hb dEN_number_24 ?_
    refine lv_istore_n (lv' := [(3, .int ((nbF bs a0 k <<< ((8 : Int32) &&& 31)) ||| (bs (a0 + k)))), (0, .ref q), (1, .int (nI a0)), (2, .int (nI m0)), (4, .int (nI (a0 + k)))]) hx hb dEN_number_25 rfl hl (by decide) rfl (fun ls hl => ?_)
    refine lv_iinc (v := nI ((a0 + k) + 1)) (lv' := [(4, .int (nI ((a0 + k) + 1))), (3, .int ((nbF bs a0 k <<< ((8 : Int32) &&& 31)) ||| (bs (a0 + k)))), (0, .ref q), (1, .int (nI a0)), (2, .int (nI m0))]) hx hb dEN_number_26 hl (k := 4) rfl ((nI_succ _).symm) (by decide) rfl (fun ls hl => ?_)
    refine lv_goto (tgt := 5) hx hb dEN_number_29 (by decide) ?_
    have e0 : nbF bs a0 (k + 1) = (nbF bs a0 k <<< ((8 : Int32) &&& 31)) ||| (bs (a0 + k)) := by simp only [nbF]
    have e1 : nI (a0 + (k + 1)) = nI (a0 + k + 1) := by rfl
    refine ih (k + 1) ls H locs (by omega) ?_ ?_
    · exact hw
    · rw [e0, e1]; exact lv_sub hl [2, 3, 4, 1, 0] rfl

set_option maxHeartbeats 4000000 in
set_option maxRecDepth 100000 in
theorem k_number (l : Launch) (D : va_G) (cI cZ cV : ClassId) (q : Nat) (q1 : Nat) (bs : Nat → Int32) (z0 : Int32) (a0 : Nat) (m0 : Nat) (hz : a0 + m0 ≤ 16) : XI l yEN_number cEN_number 5 (some .int) D (xT3 cI cZ cV) 0 0 0 [.ref q, .int (nI a0), .int (nI m0)] [(q, .inr (1, [.ref q1, .int z0])), (q1, .inl (cI, 16, .inl bs))] (fun r u => r = nbF bs a0 m0 ∧ u = [(q, .inr (1, [.ref q1, .int z0])), (q1, .inl (cI, 16, .inl bs))]) := by
  intro sz
  refine x_ofW (Qc := fun A => va_Qi _ (xB D A) A) sz (by decide) (Nat.le_of_ble_eq_true rfl) ?_
  intro p e s m args below meth c A ls S hr hlk hnm hw hl
  obtain ⟨hx, hb, hml, hown, hts⟩ := id S
  have hl : lv_has ls 5 [(0, .ref q), (1, .int (nI a0)), (2, .int (nI m0))] := hl
  refine lv_iconst (v := 0) hx hb dEN_number_0 (by decide) ?_
  refine lv_istore_n (lv' := [(3, .int 0), (0, .ref q), (1, .int (nI a0)), (2, .int (nI m0))]) hx hb dEN_number_1 rfl hl (by decide) rfl (fun ls hl => ?_)
  refine lv_iload_n hx hb dEN_number_2 rfl (lv_at hl 2 rfl) ?_
  refine lv_istore (lv' := [(4, .int (nI a0)), (3, .int 0), (0, .ref q), (1, .int (nI a0)), (2, .int (nI m0))]) hx hb dEN_number_3 hl (by decide) rfl (fun ls hl => ?_)
  refine lp_number rfl ⟨rfl, rfl⟩ S q q1 bs z0 a0 m0 hz (fun ls H locs hw hl => ?_) m0 0 ls _ _ (Nat.zero_add _) hw (lv_sub hl [2, 3, 4, 1, 0] rfl)
  refine lv_iload_n hx hb dEN_number_32 rfl (lv_at hl 3 rfl) ?_
  exact x_iret S hr hlk hw (by decide) (by decide) (⟨rfl, rfl⟩) dEN_number_33

set_option maxHeartbeats 4000000 in
set_option maxRecDepth 100000 in
theorem lp_fill {p : Program} {l : Launch} {e : Env} {s : State} {m : MethodId} {args : Array Value} {below : List Frame} {meth : Method} {c : Code} {Q : State → Prop} {D : va_G} {A : Nat → Prop} {cI cZ cV : ClassId} {H0 : Heap} {R : Room} {cells slots : Nat} (hR : R = (xR 0 0 0)) (hC : cells = 0 ∧ slots = 0) (S : CallFix p m c cAR_fill 4 s args xAll "java/util/Arrays") (q : Nat) (n0 : Nat) (f0 : Nat → Int32) (v : Int32) (hn : n0 < 1000)
    (kk : ∀ (ls : Array Slot) (H : Heap) (locs : List Loc), xW D (xT3 cI cZ cV) A H0 H locs [(q, .inl (cI, n0, .inl (flF f0 v n0)))] s → lv_has ls 4 [(0, .ref q), (1, .int v), (2, .int (nI n0)), (3, .int (nI n0))] → W p l e R s m args below meth c H locs cells slots Q (F0 m 20 ls [])) :
    ∀ (n k : Nat) (ls : Array Slot) (H : Heap) (locs : List Loc), k + n = n0 → xW D (xT3 cI cZ cV) A H0 H locs [(q, .inl (cI, n0, .inl (flF f0 v k)))] s → lv_has ls 4 [(0, .ref q), (1, .int v), (2, .int (nI k)), (3, .int (nI n0))] → W p l e R s m args below meth c H locs cells slots Q (F0 m 5 ls []) := by
  obtain ⟨hx, hb, hml, hown, hts⟩ := id S
  subst hR
  obtain ⟨rfl, rfl⟩ := hC
  intro n
  induction n with
  | zero =>
    intro k ls H locs hk hw hl
    obtain rfl : n0 = k := by omega
    refine lv_iload_n hx hb dAR_fill_5 rfl (lv_at hl 2 rfl) ?_
    refine lv_iload_n hx hb dAR_fill_6 rfl (lv_at hl 3 rfl) ?_
    refine lv_icmp_ge (tgt := 20) hx hb dAR_fill_7 (by decide) (fun h7 => ?_) (fun h7 => absurd (nI_le (Nat.le_refl _) (by omega)) h7)
    exact kk ls H locs hw (lv_sub hl [0, 1, 2, 3] rfl)
  | succ n ih =>
    intro k ls H locs hk hw hl
    have hkN : k < n0 := by omega
    refine lv_iload_n hx hb dAR_fill_5 rfl (lv_at hl 2 rfl) ?_
    refine lv_iload_n hx hb dAR_fill_6 rfl (lv_at hl 3 rfl) ?_
    refine lv_icmp_ge (tgt := 20) hx hb dAR_fill_7 (by decide) (fun h7 => absurd h7 (nI_ge hkN (by omega))) (fun h7 => ?_)
    refine lv_aload_n hx hb dAR_fill_10 rfl (lv_at hl 0 rfl) ?_
    refine lv_iload_n hx hb dAR_fill_11 rfl (lv_at hl 2 rfl) ?_
    refine lv_iload_n hx hb dAR_fill_12 rfl (lv_at hl 1 rfl) ?_
    refine x_iast S hw 0 0 rfl rfl (j := k) (vp_in_nI (by omega) (by omega)) (nI_clamp (by omega)) (ws' := [(q, .inl (cI, n0, .inl (upd (flF f0 v k) k v)))]) rfl dAR_fill_13 (fun H locs hw => ?_)
    refine lv_iinc (v := nI (k + 1)) (lv' := [(2, .int (nI (k + 1))), (0, .ref q), (1, .int v), (3, .int (nI n0))]) hx hb dAR_fill_14 hl (k := 2) rfl ((nI_succ _).symm) (by decide) rfl (fun ls hl => ?_)
    refine lv_goto (tgt := 5) hx hb dAR_fill_17 (by decide) ?_
    have e0 : flF f0 v (k + 1) = upd (flF f0 v k) k v := by simp only [flF]
    refine ih (k + 1) ls H locs (by omega) ?_ ?_
    · rw [e0]; exact hw
    · exact lv_sub hl [1, 2, 0, 3] rfl

set_option maxHeartbeats 4000000 in
set_option maxRecDepth 100000 in
theorem k_fill (l : Launch) (D : va_G) (cI cZ cV : ClassId) (q : Nat) (n0 : Nat) (f0 : Nat → Int32) (v : Int32) (hn : n0 < 1000) : XV l yAR_fill cAR_fill 4 none D (xT3 cI cZ cV) 0 0 0 [.ref q, .int v] [(q, .inl (cI, n0, .inl f0))] (fun u => u = [(q, .inl (cI, n0, .inl (flF f0 v n0)))]) := by
  intro sz
  refine x_ofW (Qc := fun A => va_Qv _ (xB D A) A) sz (by decide) (Nat.le_of_ble_eq_true rfl) ?_
  intro p e s m args below meth c A ls S hr hlk hnm hw hl
  obtain ⟨hx, hb, hml, hown, hts⟩ := id S
  have hl : lv_has ls 4 [(0, .ref q), (1, .int v)] := hl
  refine lv_iconst (v := 0) hx hb dAR_fill_0 (by decide) ?_
  refine lv_istore_n (lv' := [(2, .int 0), (0, .ref q), (1, .int v)]) hx hb dAR_fill_1 rfl hl (by decide) rfl (fun ls hl => ?_)
  refine lv_aload_n hx hb dAR_fill_2 rfl (lv_at hl 1 rfl) ?_
  refine x_alen S hw 0 0 rfl rfl (v := (nI n0)) rfl dAR_fill_3 ?_
  refine lv_istore_n (lv' := [(3, .int (nI n0)), (2, .int 0), (0, .ref q), (1, .int v)]) hx hb dAR_fill_4 rfl hl (by decide) rfl (fun ls hl => ?_)
  refine lp_fill rfl ⟨rfl, rfl⟩ S q n0 f0 v hn (fun ls H locs hw hl => ?_) n0 0 ls _ _ (Nat.zero_add _) hw (lv_sub hl [2, 3, 1, 0] rfl)
  exact x_vret S hr hlk hw (by decide) (by decide) (rfl) dAR_fill_20

set_option maxHeartbeats 4000000 in
set_option maxRecDepth 100000 in
theorem lp_value {p : Program} {l : Launch} {e : Env} {s : State} {m : MethodId} {args : Array Value} {below : List Frame} {meth : Method} {c : Code} {Q : State → Prop} {D : va_G} {A : Nat → Prop} {cI cZ cV : ClassId} {H0 : Heap} {R : Room} {cells slots : Nat} (hR : R = (xR 1 0 0)) (hC : cells = 0 ∧ slots = 0) (S : CallFix p m c cSP_valueAt 5 s args xAll "EscrowedVersions$Splitting") (q : Nat) (q1 : Nat) (q2 : Nat) (sh : Nat → Int32) (C : Nat → Int32) (n0 : Int32) (e0 : Int32) (t0 : Nat) (ht : t0 ≤ 8)
    (kk : ∀ (ls : Array Slot) (H : Heap) (locs : List Loc), xW D (xT3 cI cZ cV) A H0 H locs [(q, .inr (3, [.ref q1, .ref q2, .int n0])), (q1, .inl (cI, 9, .inl sh)), (q2, .inl (cI, 8, .inl C))] s → lv_has ls 5 [(0, .ref q), (1, .int e0), (2, .int (nI t0)), (3, .int (vaF C e0 t0 t0)), (4, .int (nI 0 + (-1)))] → W p l e R s m args below meth c H locs cells slots Q (F0 m 32 ls [])) :
    ∀ (n k : Nat) (ls : Array Slot) (H : Heap) (locs : List Loc), k + n = t0 → xW D (xT3 cI cZ cV) A H0 H locs [(q, .inr (3, [.ref q1, .ref q2, .int n0])), (q1, .inl (cI, 9, .inl sh)), (q2, .inl (cI, 8, .inl C))] s → lv_has ls 5 [(0, .ref q), (1, .int e0), (2, .int (nI t0)), (3, .int (vaF C e0 t0 k)), (4, .int (nI n + (-1)))] → W p l e R s m args below meth c H locs cells slots Q (F0 m 7 ls []) := by
  obtain ⟨hx, hb, hml, hown, hts⟩ := id S
  subst hR
  obtain ⟨rfl, rfl⟩ := hC
  intro n
  induction n with
  | zero =>
    intro k ls H locs hk hw hl
    obtain rfl : t0 = k := by omega
    refine lv_iload hx hb dSP_valueAt_7 (lv_at hl 4 rfl) ?_
    refine lv_if_lt (tgt := 32) hx hb dSP_valueAt_9 (by decide) (fun h9 => ?_) (fun h9 => absurd (by decide +kernel) h9)
    exact kk ls H locs hw (lv_sub hl [0, 1, 2, 3, 4] rfl)
  | succ n ih =>
    intro k ls H locs hk hw hl
    have hkN : k < t0 := by omega
    have hl : lv_has ls 5 [(0, .ref q), (1, .int e0), (2, .int (nI t0)), (3, .int (vaF C e0 t0 k)), (4, .int (nI n))] := by rw [pk_m1] at hl; exact hl
    refine lv_iload hx hb dSP_valueAt_7 (lv_at hl 4 rfl) ?_
    refine lv_if_lt (tgt := 32) hx hb dSP_valueAt_9 (by decide) (fun h9 => absurd h9 (nI_pos (by omega))) (fun h9 => ?_)
    refine lv_iload_n hx hb dSP_valueAt_12 rfl (lv_at hl 3 rfl) ?_
    refine lv_iload_n hx hb dSP_valueAt_13 rfl (lv_at hl 1 rfl) ?_
    refine x_calliD (ws' := [(q, .inr (3, [.ref q1, .ref q2, .int n0])), (q1, .inl (cI, 9, .inl sh)), (q2, .inl (cI, 8, .inl C))]) hw [] rfl rfl (x_runS (n := 2) (rest := []) (As := [.int (vaF C e0 t0 k), .int e0]) S hw (k_prod l D cI cZ cV (vaF C e0 t0 k) e0 _) xh_1_145 xh_2_10 xh_1_144 xh_1_7 (by decide +kernel) ⟨by decide, by decide⟩ [] rfl rfl rfl hl.1 rfl (Nat.le_of_ble_eq_true rfl) dSP_valueAt_14 ⟨by decide, by decide⟩) rfl rfl (fun H locs hw => ?_)
    refine lv_aload_n hx hb dSP_valueAt_17 rfl (lv_at hl 0 rfl) ?_
    refine x_get S hw (C := RSP) (T := TSP) (N := 3) inSP 0 rfl rfl 1 (by decide) xh_1_87 (v := .ref q2) rfl dSP_valueAt_18 ?_
    refine lv_iload hx hb dSP_valueAt_21 (lv_at hl 4 rfl) ?_
    refine x_iald S hw 2 0 rfl rfl (j := n) (vp_in_nI (by omega) (by omega)) (nI_clamp (by omega)) dSP_valueAt_23 ?_
    refine lv_ixor hx hb dSP_valueAt_24 ?_
    refine lv_istore_n (lv' := [(3, .int ((fProd (vaF C e0 t0 k) e0) ^^^ (C n))), (0, .ref q), (1, .int e0), (2, .int (nI t0)), (4, .int (nI n))]) hx hb dSP_valueAt_25 rfl hl (by decide) rfl (fun ls hl => ?_)
    refine lv_iinc (v := (nI n) + (-1)) (lv' := [(4, .int ((nI n) + (-1))), (3, .int ((fProd (vaF C e0 t0 k) e0) ^^^ (C n))), (0, .ref q), (1, .int e0), (2, .int (nI t0))]) hx hb dSP_valueAt_26 hl (k := 4) rfl (by rw [show Int32.ofInt (-1) = (-1 : Int32) by decide]) (by decide) rfl (fun ls hl => ?_)
    refine lv_goto (tgt := 7) hx hb dSP_valueAt_29 (by decide) ?_
    have e0 : vaF C e0 t0 (k + 1) = (fProd (vaF C e0 t0 k) e0) ^^^ (C n) := by simp only [vaF]; rw [show t0 - 1 - k = n by omega]
    have e1 : nI n + (-1) = (nI n) + (-1) := by simp only [vaF]
    refine ih (k + 1) ls H locs (by omega) ?_ ?_
    · exact hw
    · rw [e0, e1]; exact lv_sub hl [2, 3, 4, 1, 0] rfl

set_option maxHeartbeats 4000000 in
set_option maxRecDepth 100000 in
theorem k_value (l : Launch) (D : va_G) (cI cZ cV : ClassId) (q : Nat) (q1 : Nat) (q2 : Nat) (sh : Nat → Int32) (C : Nat → Int32) (n0 : Int32) (e0 : Int32) (t0 : Nat) (ht : t0 ≤ 8) : XI l ySP_valueAt cSP_valueAt 5 (some .int) D (xT3 cI cZ cV) 1 0 0 [.ref q, .int e0, .int (nI t0)] [(q, .inr (3, [.ref q1, .ref q2, .int n0])), (q1, .inl (cI, 9, .inl sh)), (q2, .inl (cI, 8, .inl C))] (fun r u => r = vaF C e0 t0 t0 ∧ u = [(q, .inr (3, [.ref q1, .ref q2, .int n0])), (q1, .inl (cI, 9, .inl sh)), (q2, .inl (cI, 8, .inl C))]) := by
  intro sz
  refine x_ofW (Qc := fun A => va_Qi _ (xB D A) A) sz (by decide) (Nat.le_of_ble_eq_true rfl) ?_
  intro p e s m args below meth c A ls S hr hlk hnm hw hl
  obtain ⟨hx, hb, hml, hown, hts⟩ := id S
  have hl : lv_has ls 5 [(0, .ref q), (1, .int e0), (2, .int (nI t0))] := hl
  refine lv_iconst (v := 0) hx hb dSP_valueAt_0 (by decide) ?_
  refine lv_istore_n (lv' := [(3, .int 0), (0, .ref q), (1, .int e0), (2, .int (nI t0))]) hx hb dSP_valueAt_1 rfl hl (by decide) rfl (fun ls hl => ?_)
  refine lv_iload_n hx hb dSP_valueAt_2 rfl (lv_at hl 3 rfl) ?_
  refine lv_iconst (v := 1) hx hb dSP_valueAt_3 (by decide) ?_
  refine lv_isub hx hb dSP_valueAt_4 ?_
  refine x_topi (y := nI t0 + (-1)) (Int32.sub_eq_add_neg _ _) ?_
  refine lv_istore (lv' := [(4, .int (nI t0 + (-1))), (3, .int 0), (0, .ref q), (1, .int e0), (2, .int (nI t0))]) hx hb dSP_valueAt_5 hl (by decide) rfl (fun ls hl => ?_)
  refine lp_value rfl ⟨rfl, rfl⟩ S q q1 q2 sh C n0 e0 t0 ht (fun ls H locs hw hl => ?_) t0 0 ls _ _ (Nat.zero_add _) hw (lv_sub hl [2, 3, 4, 1, 0] rfl)
  refine lv_iload_n hx hb dSP_valueAt_32 rfl (lv_at hl 3 rfl) ?_
  exact x_iret S hr hlk hw (by decide) (by decide) (⟨rfl, rfl⟩) dSP_valueAt_33
