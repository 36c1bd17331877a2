set_option maxHeartbeats 4000000 in
set_option maxRecDepth 100000 in
theorem i_CR (l : Launch) (D : va_G) (cI cZ cV : ClassId) (q : Nat) : XV l yCR_init cCR_init 1 none D (xT3 cI cZ cV) 1 1 64 [.ref q] [(q, .inr (0, [.null, .int 0, .int 0]))] (fun u => ∃ a1 : Nat, u = [(q, .inr (0, [.ref a1, .int 0, .int 0])), (a1, .inl (cI, 64, .inl (fun _ => 0)))]) := by
  intro sz
  refine x_ofW (Qc := fun A => va_Qv _ (xB D A) A) sz (by decide) (Nat.le_of_ble_eq_true rfl) ?_
  intro p e s m args below meth c A ls S hr hlk hnm hw hl
  obtain ⟨hx, hb, hml, hown, hts⟩ := id S
  have hl : lv_has ls 1 [(0, .ref q)] := hl
  refine lv_aload_n hx hb dCR_init_0 rfl (lv_at hl 0 rfl) ?_
  refine W.objInit hx hb hown (hts _ xh_1_23) (hts _ xh_1_16) (hts _ xh_1_17) rfl (by rw [hml]; exact hl.1) rfl dCR_init_1 (Nat.le_of_ble_eq_true rfl) (Nat.le_of_ble_eq_true rfl) ?_
  refine W.eq (g2 := F0 m 4 ls []) rfl ?_
  refine lv_aload_n hx hb dCR_init_4 rfl (lv_at hl 0 rfl) ?_
  refine lv_bipush (v := 64) hx hb dCR_init_5 (by decide) ?_
  refine x_newi S hw xh_1_35 (N' := 64) (by decide) (by decide) (by decide) (by decide) (by decide) (ws' := fun q7 => [(q, .inr (0, [.null, .int 0, .int 0])), (q7, .inl (cI, 64, .inl (fun _ => 0)))]) (fun _ => rfl) dCR_init_7 (fun q7 H hw => ?_)
  refine x_putF S hnm hw (C := RCR) (T := TCR) (N := 3) inCR tyCR tyCR_ok nmCR 0 rfl rfl 0 (by decide) xh_1_24 rfl rfl (v := .ref q7) rfl rfl (Nat.le_of_ble_eq_true rfl) (ws' := [(q, .inr (0, [.ref q7, .int 0, .int 0])), (q7, .inl (cI, 64, .inl (fun _ => 0)))]) rfl dCR_init_9 (fun H locs hw => ?_)
  refine lv_aload_n hx hb dCR_init_12 rfl (lv_at hl 0 rfl) ?_
  refine lv_iconst (v := 0) hx hb dCR_init_13 (by decide) ?_
  refine x_put S hw (C := RCR) (T := TCR) (N := 3) inCR tyCR tyCR_ok nmCR 0 rfl rfl 1 (by decide) xh_1_25 rfl (v := .int 0) rfl rfl (Nat.le_of_ble_eq_true rfl) (ws' := [(q, .inr (0, [.ref q7, .int 0, .int 0])), (q7, .inl (cI, 64, .inl (fun _ => 0)))]) rfl dCR_init_14 (fun H locs hw => ?_)
  refine lv_aload_n hx hb dCR_init_17 rfl (lv_at hl 0 rfl) ?_
  refine lv_iconst (v := 0) hx hb dCR_init_18 (by decide) ?_
  refine x_put S hw (C := RCR) (T := TCR) (N := 3) inCR tyCR tyCR_ok nmCR 0 rfl rfl 2 (by decide) xh_1_26 rfl (v := .int 0) rfl rfl (Nat.le_of_ble_eq_true rfl) (ws' := [(q, .inr (0, [.ref q7, .int 0, .int 0])), (q7, .inl (cI, 64, .inl (fun _ => 0)))]) rfl dCR_init_19 (fun H locs hw => ?_)
  exact x_vret S hr hlk hw (by decide) (by decide) (⟨q7, rfl⟩) dCR_init_22

set_option maxHeartbeats 4000000 in
set_option maxRecDepth 100000 in
theorem i_JO (l : Launch) (D : va_G) (cI cZ cV : ClassId) (q : Nat) : XV l yJO_init cJO_init 1 none D (xT3 cI cZ cV) 1 4 320 [.ref q] [(q, .inr (2, [.null, .null, .null, .null, .int 0]))] (fun u => ∃ a1 a2 a3 a4 : Nat, u = [(q, .inr (2, [.ref a1, .ref a2, .ref a3, .ref a4, .int 0])), (a1, .inl (cI, 80, .inl (fun _ => 0))), (a2, .inl (cI, 80, .inl (fun _ => 0))), (a3, .inl (cI, 80, .inl (fun _ => 0))), (a4, .inl (cI, 80, .inl (fun _ => 0)))]) := by
  intro sz
  refine x_ofW (Qc := fun A => va_Qv _ (xB D A) A) sz (by decide) (Nat.le_of_ble_eq_true rfl) ?_
  intro p e s m args below meth c A ls S hr hlk hnm hw hl
  obtain ⟨hx, hb, hml, hown, hts⟩ := id S
  have hl : lv_has ls 1 [(0, .ref q)] := hl
  refine lv_aload_n hx hb dJO_init_0 rfl (lv_at hl 0 rfl) ?_
  refine W.objInit hx hb hown (hts _ xh_1_41) (hts _ xh_1_16) (hts _ xh_1_17) rfl (by rw [hml]; exact hl.1) rfl dJO_init_1 (Nat.le_of_ble_eq_true rfl) (Nat.le_of_ble_eq_true rfl) ?_
  refine W.eq (g2 := F0 m 4 ls []) rfl ?_
  refine lv_aload_n hx hb dJO_init_4 rfl (lv_at hl 0 rfl) ?_
  refine lv_bipush (v := 80) hx hb dJO_init_5 (by decide) ?_
  refine x_newi S hw xh_1_35 (N' := 80) (by decide) (by decide) (by decide) (by decide) (by decide) (ws' := fun q7 => [(q, .inr (2, [.null, .null, .null, .null, .int 0])), (q7, .inl (cI, 80, .inl (fun _ => 0)))]) (fun _ => rfl) dJO_init_7 (fun q7 H hw => ?_)
  refine x_putF S hnm hw (C := RJO) (T := TJO) (N := 5) inJO tyJO tyJO_ok nmJO 0 rfl rfl 0 (by decide) xh_1_42 rfl rfl (v := .ref q7) rfl rfl (Nat.le_of_ble_eq_true rfl) (ws' := [(q, .inr (2, [.ref q7, .null, .null, .null, .int 0])), (q7, .inl (cI, 80, .inl (fun _ => 0)))]) rfl dJO_init_9 (fun H locs hw => ?_)
  refine lv_aload_n hx hb dJO_init_12 rfl (lv_at hl 0 rfl) ?_
  refine lv_bipush (v := 80) hx hb dJO_init_13 (by decide) ?_
  refine x_newi S hw xh_1_35 (N' := 80) (by decide) (by decide) (by decide) (by decide) (by decide) (ws' := fun q15 => [(q, .inr (2, [.ref q7, .null, .null, .null, .int 0])), (q7, .inl (cI, 80, .inl (fun _ => 0))), (q15, .inl (cI, 80, .inl (fun _ => 0)))]) (fun _ => rfl) dJO_init_15 (fun q15 H hw => ?_)
  refine x_putF S hnm hw (C := RJO) (T := TJO) (N := 5) inJO tyJO tyJO_ok nmJO 0 rfl rfl 1 (by decide) xh_1_44 rfl rfl (v := .ref q15) rfl rfl (Nat.le_of_ble_eq_true rfl) (ws' := [(q, .inr (2, [.ref q7, .ref q15, .null, .null, .int 0])), (q7, .inl (cI, 80, .inl (fun _ => 0))), (q15, .inl (cI, 80, .inl (fun _ => 0)))]) rfl dJO_init_17 (fun H locs hw => ?_)
  refine lv_aload_n hx hb dJO_init_20 rfl (lv_at hl 0 rfl) ?_
  refine lv_bipush (v := 80) hx hb dJO_init_21 (by decide) ?_
  refine x_newi S hw xh_1_35 (N' := 80) (by decide) (by decide) (by decide) (by decide) (by decide) (ws' := fun q23 => [(q, .inr (2, [.ref q7, .ref q15, .null, .null, .int 0])), (q7, .inl (cI, 80, .inl (fun _ => 0))), (q15, .inl (cI, 80, .inl (fun _ => 0))), (q23, .inl (cI, 80, .inl (fun _ => 0)))]) (fun _ => rfl) dJO_init_23 (fun q23 H hw => ?_)
  refine x_putF S hnm hw (C := RJO) (T := TJO) (N := 5) inJO tyJO tyJO_ok nmJO 0 rfl rfl 2 (by decide) xh_1_46 rfl rfl (v := .ref q23) rfl rfl (Nat.le_of_ble_eq_true rfl) (ws' := [(q, .inr (2, [.ref q7, .ref q15, .ref q23, .null, .int 0])), (q7, .inl (cI, 80, .inl (fun _ => 0))), (q15, .inl (cI, 80, .inl (fun _ => 0))), (q23, .inl (cI, 80, .inl (fun _ => 0)))]) rfl dJO_init_25 (fun H locs hw => ?_)
  refine lv_aload_n hx hb dJO_init_28 rfl (lv_at hl 0 rfl) ?_
  refine lv_bipush (v := 80) hx hb dJO_init_29 (by decide) ?_
  refine x_newi S hw xh_1_35 (N' := 80) (by decide) (by decide) (by decide) (by decide) (by decide) (ws' := fun q31 => [(q, .inr (2, [.ref q7, .ref q15, .ref q23, .null, .int 0])), (q7, .inl (cI, 80, .inl (fun _ => 0))), (q15, .inl (cI, 80, .inl (fun _ => 0))), (q23, .inl (cI, 80, .inl (fun _ => 0))), (q31, .inl (cI, 80, .inl (fun _ => 0)))]) (fun _ => rfl) dJO_init_31 (fun q31 H hw => ?_)
  refine x_putF S hnm hw (C := RJO) (T := TJO) (N := 5) inJO tyJO tyJO_ok nmJO 0 rfl rfl 3 (by decide) xh_1_48 rfl rfl (v := .ref q31) rfl rfl (Nat.le_of_ble_eq_true rfl) (ws' := [(q, .inr (2, [.ref q7, .ref q15, .ref q23, .ref q31, .int 0])), (q7, .inl (cI, 80, .inl (fun _ => 0))), (q15, .inl (cI, 80, .inl (fun _ => 0))), (q23, .inl (cI, 80, .inl (fun _ => 0))), (q31, .inl (cI, 80, .inl (fun _ => 0)))]) rfl dJO_init_33 (fun H locs hw => ?_)
  refine lv_aload_n hx hb dJO_init_36 rfl (lv_at hl 0 rfl) ?_
  refine lv_iconst (v := 0) hx hb dJO_init_37 (by decide) ?_
  refine x_put S hw (C := RJO) (T := TJO) (N := 5) inJO tyJO tyJO_ok nmJO 0 rfl rfl 4 (by decide) xh_1_50 rfl (v := .int 0) rfl rfl (Nat.le_of_ble_eq_true rfl) (ws' := [(q, .inr (2, [.ref q7, .ref q15, .ref q23, .ref q31, .int 0])), (q7, .inl (cI, 80, .inl (fun _ => 0))), (q15, .inl (cI, 80, .inl (fun _ => 0))), (q23, .inl (cI, 80, .inl (fun _ => 0))), (q31, .inl (cI, 80, .inl (fun _ => 0)))]) rfl dJO_init_38 (fun H locs hw => ?_)
  exact x_vret S hr hlk hw (by decide) (by decide) (⟨q7, q15, q23, q31, rfl⟩) dJO_init_41

set_option maxHeartbeats 4000000 in
set_option maxRecDepth 100000 in
theorem i_EN (l : Launch) (D : va_G) (cI cZ cV : ClassId) (q : Nat) : XV l yEN_init cEN_init 1 none D (xT3 cI cZ cV) 1 1 16 [.ref q] [(q, .inr (1, [.null, .int 0]))] (fun u => ∃ a1 : Nat, u = [(q, .inr (1, [.ref a1, .int 0])), (a1, .inl (cI, 16, .inl (fun _ => 0)))]) := by
  intro sz
  refine x_ofW (Qc := fun A => va_Qv _ (xB D A) A) sz (by decide) (Nat.le_of_ble_eq_true rfl) ?_
  intro p e s m args below meth c A ls S hr hlk hnm hw hl
  obtain ⟨hx, hb, hml, hown, hts⟩ := id S
  have hl : lv_has ls 1 [(0, .ref q)] := hl
  refine lv_aload_n hx hb dEN_init_0 rfl (lv_at hl 0 rfl) ?_
  refine W.objInit hx hb hown (hts _ xh_1_68) (hts _ xh_1_16) (hts _ xh_1_17) rfl (by rw [hml]; exact hl.1) rfl dEN_init_1 (Nat.le_of_ble_eq_true rfl) (Nat.le_of_ble_eq_true rfl) ?_
  refine W.eq (g2 := F0 m 4 ls []) rfl ?_
  refine lv_aload_n hx hb dEN_init_4 rfl (lv_at hl 0 rfl) ?_
  refine lv_bipush (v := 16) hx hb dEN_init_5 (by decide) ?_
  refine x_newi S hw xh_1_35 (N' := 16) (by decide) (by decide) (by decide) (by decide) (by decide) (ws' := fun q7 => [(q, .inr (1, [.null, .int 0])), (q7, .inl (cI, 16, .inl (fun _ => 0)))]) (fun _ => rfl) dEN_init_7 (fun q7 H hw => ?_)
  refine x_putF S hnm hw (C := REN) (T := TEN) (N := 2) inEN tyEN tyEN_ok nmEN 0 rfl rfl 0 (by decide) xh_1_69 rfl rfl (v := .ref q7) rfl rfl (Nat.le_of_ble_eq_true rfl) (ws' := [(q, .inr (1, [.ref q7, .int 0])), (q7, .inl (cI, 16, .inl (fun _ => 0)))]) rfl dEN_init_9 (fun H locs hw => ?_)
  refine lv_aload_n hx hb dEN_init_12 rfl (lv_at hl 0 rfl) ?_
  refine lv_iconst (v := 0) hx hb dEN_init_13 (by decide) ?_
  refine x_put S hw (C := REN) (T := TEN) (N := 2) inEN tyEN tyEN_ok nmEN 0 rfl rfl 1 (by decide) xh_1_71 rfl (v := .int 0) rfl rfl (Nat.le_of_ble_eq_true rfl) (ws' := [(q, .inr (1, [.ref q7, .int 0])), (q7, .inl (cI, 16, .inl (fun _ => 0)))]) rfl dEN_init_14 (fun H locs hw => ?_)
  exact x_vret S hr hlk hw (by decide) (by decide) (⟨q7, rfl⟩) dEN_init_17

set_option maxHeartbeats 4000000 in
set_option maxRecDepth 100000 in
theorem i_SP (l : Launch) (D : va_G) (cI cZ cV : ClassId) (q : Nat) : XV l ySP_init cSP_init 1 none D (xT3 cI cZ cV) 1 2 17 [.ref q] [(q, .inr (3, [.null, .null, .int 0]))] (fun u => ∃ a1 a2 : Nat, u = [(q, .inr (3, [.ref a1, .ref a2, .int 0])), (a1, .inl (cI, 9, .inl (fun _ => 0))), (a2, .inl (cI, 8, .inl (fun _ => 0)))]) := by
  intro sz
  refine x_ofW (Qc := fun A => va_Qv _ (xB D A) A) sz (by decide) (Nat.le_of_ble_eq_true rfl) ?_
  intro p e s m args below meth c A ls S hr hlk hnm hw hl
  obtain ⟨hx, hb, hml, hown, hts⟩ := id S
  have hl : lv_has ls 1 [(0, .ref q)] := hl
  refine lv_aload_n hx hb dSP_init_0 rfl (lv_at hl 0 rfl) ?_
  refine W.objInit hx hb hown (hts _ xh_1_83) (hts _ xh_1_16) (hts _ xh_1_17) rfl (by rw [hml]; exact hl.1) rfl dSP_init_1 (Nat.le_of_ble_eq_true rfl) (Nat.le_of_ble_eq_true rfl) ?_
  refine W.eq (g2 := F0 m 4 ls []) rfl ?_
  refine lv_aload_n hx hb dSP_init_4 rfl (lv_at hl 0 rfl) ?_
  refine lv_bipush (v := 9) hx hb dSP_init_5 (by decide) ?_
  refine x_newi S hw xh_1_35 (N' := 9) (by decide) (by decide) (by decide) (by decide) (by decide) (ws' := fun q7 => [(q, .inr (3, [.null, .null, .int 0])), (q7, .inl (cI, 9, .inl (fun _ => 0)))]) (fun _ => rfl) dSP_init_7 (fun q7 H hw => ?_)
  refine x_putF S hnm hw (C := RSP) (T := TSP) (N := 3) inSP tySP tySP_ok nmSP 0 rfl rfl 0 (by decide) xh_1_84 rfl rfl (v := .ref q7) rfl rfl (Nat.le_of_ble_eq_true rfl) (ws' := [(q, .inr (3, [.ref q7, .null, .int 0])), (q7, .inl (cI, 9, .inl (fun _ => 0)))]) rfl dSP_init_9 (fun H locs hw => ?_)
  refine lv_aload_n hx hb dSP_init_12 rfl (lv_at hl 0 rfl) ?_
  refine lv_bipush (v := 8) hx hb dSP_init_13 (by decide) ?_
  refine x_newi S hw xh_1_35 (N' := 8) (by decide) (by decide) (by decide) (by decide) (by decide) (ws' := fun q15 => [(q, .inr (3, [.ref q7, .null, .int 0])), (q7, .inl (cI, 9, .inl (fun _ => 0))), (q15, .inl (cI, 8, .inl (fun _ => 0)))]) (fun _ => rfl) dSP_init_15 (fun q15 H hw => ?_)
  refine x_putF S hnm hw (C := RSP) (T := TSP) (N := 3) inSP tySP tySP_ok nmSP 0 rfl rfl 1 (by decide) xh_1_87 rfl rfl (v := .ref q15) rfl rfl (Nat.le_of_ble_eq_true rfl) (ws' := [(q, .inr (3, [.ref q7, .ref q15, .int 0])), (q7, .inl (cI, 9, .inl (fun _ => 0))), (q15, .inl (cI, 8, .inl (fun _ => 0)))]) rfl dSP_init_17 (fun H locs hw => ?_)
  refine lv_aload_n hx hb dSP_init_20 rfl (lv_at hl 0 rfl) ?_
  refine lv_iconst (v := 0) hx hb dSP_init_21 (by decide) ?_
  refine x_put S hw (C := RSP) (T := TSP) (N := 3) inSP tySP tySP_ok nmSP 0 rfl rfl 2 (by decide) xh_1_88 rfl (v := .int 0) rfl rfl (Nat.le_of_ble_eq_true rfl) (ws' := [(q, .inr (3, [.ref q7, .ref q15, .int 0])), (q7, .inl (cI, 9, .inl (fun _ => 0))), (q15, .inl (cI, 8, .inl (fun _ => 0)))]) rfl dSP_init_22 (fun H locs hw => ?_)
  exact x_vret S hr hlk hw (by decide) (by decide) (⟨q7, q15, rfl⟩) dSP_init_25

set_option maxHeartbeats 4000000 in
set_option maxRecDepth 100000 in
theorem i_VE (l : Launch) (D : va_G) (cI cZ cV : ClassId) (q : Nat) (x : Int32) (w : Int32) : XV l yVE_init cVE_init 3 none D (xT3 cI cZ cV) 1 2 18 [.ref q, .int x, .int w] [(q, .inr (4, [.int 0, .null, .null, .int 0, .int 0, .int 0, .int 0, .int 0, .int 0, .int 0]))] (fun u => ∃ a1 a2 : Nat, u = [(q, .inr (4, [.int x, .ref a1, .ref a2, .int 1, .int w, .int 0, .int 0, .int 0, .int 0, .int 0])), (a1, .inl (cI, 9, .inl (fun _ => 0))), (a2, .inl (cI, 9, .inl (fun _ => 0)))]) := by
  intro sz
  refine x_ofW (Qc := fun A => va_Qv _ (xB D A) A) sz (by decide) (Nat.le_of_ble_eq_true rfl) ?_
  intro p e s m args below meth c A ls S hr hlk hnm hw hl
  obtain ⟨hx, hb, hml, hown, hts⟩ := id S
  have hl : lv_has ls 3 [(0, .ref q), (1, .int x), (2, .int w)] := hl
  refine lv_aload_n hx hb dVE_init_0 rfl (lv_at hl 0 rfl) ?_
  refine W.objInit hx hb hown (hts _ xh_1_166) (hts _ xh_1_16) (hts _ xh_1_17) rfl (by rw [hml]; exact hl.1) rfl dVE_init_1 (Nat.le_of_ble_eq_true rfl) (Nat.le_of_ble_eq_true rfl) ?_
  refine W.eq (g2 := F0 m 4 ls []) rfl ?_
  refine lv_aload_n hx hb dVE_init_4 rfl (lv_at hl 0 rfl) ?_
  refine lv_bipush (v := 9) hx hb dVE_init_5 (by decide) ?_
  refine x_newi S hw xh_1_35 (N' := 9) (by decide) (by decide) (by decide) (by decide) (by decide) (ws' := fun q7 => [(q, .inr (4, [.int 0, .null, .null, .int 0, .int 0, .int 0, .int 0, .int 0, .int 0, .int 0])), (q7, .inl (cI, 9, .inl (fun _ => 0)))]) (fun _ => rfl) dVE_init_7 (fun q7 H hw => ?_)
  refine x_putF S hnm hw (C := RVE) (T := TVE) (N := 10) inVE tyVE tyVE_ok nmVE 0 rfl rfl 1 (by decide) xh_1_169 rfl rfl (v := .ref q7) rfl rfl (Nat.le_of_ble_eq_true rfl) (ws' := [(q, .inr (4, [.int 0, .ref q7, .null, .int 0, .int 0, .int 0, .int 0, .int 0, .int 0, .int 0])), (q7, .inl (cI, 9, .inl (fun _ => 0)))]) rfl dVE_init_9 (fun H locs hw => ?_)
  refine lv_aload_n hx hb dVE_init_12 rfl (lv_at hl 0 rfl) ?_
  refine lv_bipush (v := 9) hx hb dVE_init_13 (by decide) ?_
  refine x_newi S hw xh_1_35 (N' := 9) (by decide) (by decide) (by decide) (by decide) (by decide) (ws' := fun q15 => [(q, .inr (4, [.int 0, .ref q7, .null, .int 0, .int 0, .int 0, .int 0, .int 0, .int 0, .int 0])), (q7, .inl (cI, 9, .inl (fun _ => 0))), (q15, .inl (cI, 9, .inl (fun _ => 0)))]) (fun _ => rfl) dVE_init_15 (fun q15 H hw => ?_)
  refine x_putF S hnm hw (C := RVE) (T := TVE) (N := 10) inVE tyVE tyVE_ok nmVE 0 rfl rfl 2 (by decide) xh_1_170 rfl rfl (v := .ref q15) rfl rfl (Nat.le_of_ble_eq_true rfl) (ws' := [(q, .inr (4, [.int 0, .ref q7, .ref q15, .int 0, .int 0, .int 0, .int 0, .int 0, .int 0, .int 0])), (q7, .inl (cI, 9, .inl (fun _ => 0))), (q15, .inl (cI, 9, .inl (fun _ => 0)))]) rfl dVE_init_17 (fun H locs hw => ?_)
  refine lv_aload_n hx hb dVE_init_20 rfl (lv_at hl 0 rfl) ?_
  refine lv_iconst (v := 1) hx hb dVE_init_21 (by decide) ?_
  refine x_put S hw (C := RVE) (T := TVE) (N := 10) inVE tyVE tyVE_ok nmVE 0 rfl rfl 3 (by decide) xh_1_171 rfl (v := .int 1) rfl rfl (Nat.le_of_ble_eq_true rfl) (ws' := [(q, .inr (4, [.int 0, .ref q7, .ref q15, .int 1, .int 0, .int 0, .int 0, .int 0, .int 0, .int 0])), (q7, .inl (cI, 9, .inl (fun _ => 0))), (q15, .inl (cI, 9, .inl (fun _ => 0)))]) rfl dVE_init_22 (fun H locs hw => ?_)
  refine lv_aload_n hx hb dVE_init_25 rfl (lv_at hl 0 rfl) ?_
  refine lv_iconst (v := 0) hx hb dVE_init_26 (by decide) ?_
  refine x_put S hw (C := RVE) (T := TVE) (N := 10) inVE tyVE tyVE_ok nmVE 0 rfl rfl 5 (by decide) xh_1_175 rfl (v := .int 0) rfl rfl (Nat.le_of_ble_eq_true rfl) (ws' := [(q, .inr (4, [.int 0, .ref q7, .ref q15, .int 1, .int 0, .int 0, .int 0, .int 0, .int 0, .int 0])), (q7, .inl (cI, 9, .inl (fun _ => 0))), (q15, .inl (cI, 9, .inl (fun _ => 0)))]) rfl dVE_init_27 (fun H locs hw => ?_)
  refine lv_aload_n hx hb dVE_init_30 rfl (lv_at hl 0 rfl) ?_
  refine lv_iconst (v := 0) hx hb dVE_init_31 (by decide) ?_
  refine x_put S hw (C := RVE) (T := TVE) (N := 10) inVE tyVE tyVE_ok nmVE 0 rfl rfl 6 (by decide) xh_1_177 rfl (v := .int 0) rfl rfl (Nat.le_of_ble_eq_true rfl) (ws' := [(q, .inr (4, [.int 0, .ref q7, .ref q15, .int 1, .int 0, .int 0, .int 0, .int 0, .int 0, .int 0])), (q7, .inl (cI, 9, .inl (fun _ => 0))), (q15, .inl (cI, 9, .inl (fun _ => 0)))]) rfl dVE_init_32 (fun H locs hw => ?_)
  refine lv_aload_n hx hb dVE_init_35 rfl (lv_at hl 0 rfl) ?_
  refine lv_iconst (v := 0) hx hb dVE_init_36 (by decide) ?_
  refine x_put S hw (C := RVE) (T := TVE) (N := 10) inVE tyVE tyVE_ok nmVE 0 rfl rfl 7 (by decide) xh_1_179 rfl (v := .int 0) rfl rfl (Nat.le_of_ble_eq_true rfl) (ws' := [(q, .inr (4, [.int 0, .ref q7, .ref q15, .int 1, .int 0, .int 0, .int 0, .int 0, .int 0, .int 0])), (q7, .inl (cI, 9, .inl (fun _ => 0))), (q15, .inl (cI, 9, .inl (fun _ => 0)))]) rfl dVE_init_37 (fun H locs hw => ?_)
  refine lv_aload_n hx hb dVE_init_40 rfl (lv_at hl 0 rfl) ?_
  refine lv_iconst (v := 0) hx hb dVE_init_41 (by decide) ?_
  refine x_put S hw (C := RVE) (T := TVE) (N := 10) inVE tyVE tyVE_ok nmVE 0 rfl rfl 8 (by decide) xh_1_180 rfl (v := .int 0) rfl rfl (Nat.le_of_ble_eq_true rfl) (ws' := [(q, .inr (4, [.int 0, .ref q7, .ref q15, .int 1, .int 0, .int 0, .int 0, .int 0, .int 0, .int 0])), (q7, .inl (cI, 9, .inl (fun _ => 0))), (q15, .inl (cI, 9, .inl (fun _ => 0)))]) rfl dVE_init_42 (fun H locs hw => ?_)
  refine lv_aload_n hx hb dVE_init_45 rfl (lv_at hl 0 rfl) ?_
  refine lv_iconst (v := 0) hx hb dVE_init_46 (by decide) ?_
  refine x_put S hw (C := RVE) (T := TVE) (N := 10) inVE tyVE tyVE_ok nmVE 0 rfl rfl 9 (by decide) xh_1_182 rfl (v := .int 0) rfl rfl (Nat.le_of_ble_eq_true rfl) (ws' := [(q, .inr (4, [.int 0, .ref q7, .ref q15, .int 1, .int 0, .int 0, .int 0, .int 0, .int 0, .int 0])), (q7, .inl (cI, 9, .inl (fun _ => 0))), (q15, .inl (cI, 9, .inl (fun _ => 0)))]) rfl dVE_init_47 (fun H locs hw => ?_)
  refine lv_aload_n hx hb dVE_init_50 rfl (lv_at hl 0 rfl) ?_
  refine lv_iload_n hx hb dVE_init_51 rfl (lv_at hl 1 rfl) ?_
  refine x_putF S hnm hw (C := RVE) (T := TVE) (N := 10) inVE tyVE tyVE_ok nmVE 0 rfl rfl 0 (by decide) xh_1_167 rfl rfl (v := .int x) rfl rfl (Nat.le_of_ble_eq_true rfl) (ws' := [(q, .inr (4, [.int x, .ref q7, .ref q15, .int 1, .int 0, .int 0, .int 0, .int 0, .int 0, .int 0])), (q7, .inl (cI, 9, .inl (fun _ => 0))), (q15, .inl (cI, 9, .inl (fun _ => 0)))]) rfl dVE_init_52 (fun H locs hw => ?_)
  refine lv_aload_n hx hb dVE_init_55 rfl (lv_at hl 0 rfl) ?_
  refine lv_iload_n hx hb dVE_init_56 rfl (lv_at hl 2 rfl) ?_
  refine x_put S hw (C := RVE) (T := TVE) (N := 10) inVE tyVE tyVE_ok nmVE 0 rfl rfl 4 (by decide) xh_1_173 rfl (v := .int w) rfl rfl (Nat.le_of_ble_eq_true rfl) (ws' := [(q, .inr (4, [.int x, .ref q7, .ref q15, .int 1, .int w, .int 0, .int 0, .int 0, .int 0, .int 0])), (q7, .inl (cI, 9, .inl (fun _ => 0))), (q15, .inl (cI, 9, .inl (fun _ => 0)))]) rfl dVE_init_57 (fun H locs hw => ?_)
  exact x_vret S hr hlk hw (by decide) (by decide) (⟨q7, q15, rfl⟩) dVE_init_60

set_option maxHeartbeats 4000000 in
set_option maxRecDepth 100000 in
theorem i_EV (l : Launch) (D : va_G) (cI cZ cV : ClassId) (q : Nat) : XV l yEV_init cEV_init 1 none D (xT3 cI cZ cV) 2 13 438 [.ref q] [(q, .inr (5, [.null, .null, .null, .null, .null, .int 0, .null, .int 0]))] (fun u => ∃ b1 b2 b3 b4 b5 b6 b7 b8 b9 b10 b11 b12 b13 : Nat, u = [(q, .inr (5, [.ref b1, .ref b3, .ref b8, .ref b10, .ref b13, .int 0, .null, .int 0])), (b1, .inr (0, [.ref b2, .int 0, .int 0])), (b2, .inl (cI, 64, .inl (fun _ => 0))), (b3, .inr (2, [.ref b4, .ref b5, .ref b6, .ref b7, .int 0])), (b4, .inl (cI, 80, .inl (fun _ => 0))), (b5, .inl (cI, 80, .inl (fun _ => 0))), (b6, .inl (cI, 80, .inl (fun _ => 0))), (b7, .inl (cI, 80, .inl (fun _ => 0))), (b8, .inr (1, [.ref b9, .int 0])), (b9, .inl (cI, 16, .inl (fun _ => 0))), (b10, .inr (3, [.ref b11, .ref b12, .int 0])), (b11, .inl (cI, 9, .inl (fun _ => 0))), (b12, .inl (cI, 8, .inl (fun _ => 0))), (b13, .inl (cV, 8, .inr (.inr (.inr (.inr (fun _ => none))))))]) := by
  intro sz
  refine x_ofW (Qc := fun A => va_Qv _ (xB D A) A) sz (by decide) (Nat.le_of_ble_eq_true rfl) ?_
  intro p e s m args below meth c A ls S hr hlk hnm hw hl
  obtain ⟨hx, hb, hml, hown, hts⟩ := id S
  have hl : lv_has ls 1 [(0, .ref q)] := hl
  refine lv_aload_n hx hb dEV_init_0 rfl (lv_at hl 0 rfl) ?_
  refine W.objInit hx hb hown (hts _ xh_1_15) (hts _ xh_1_16) (hts _ xh_1_17) rfl (by rw [hml]; exact hl.1) rfl dEV_init_1 (Nat.le_of_ble_eq_true rfl) (Nat.le_of_ble_eq_true rfl) ?_
  refine W.eq (g2 := F0 m 4 ls []) rfl ?_
  refine lv_aload_n hx hb dEV_init_4 rfl (lv_at hl 0 rfl) ?_
  refine x_new S hw (C := RCR) (T := TCR) (N := 3) (ci := 0) inCR tyCR tyCR_ok rfl xh_1_18 xh_1_19 xh_1_2 (fs := [.null, .int 0, .int 0]) (by decide +kernel) (by decide) (by decide) (ws' := fun q5 => [(q, .inr (5, [.null, .null, .null, .null, .null, .int 0, .null, .int 0])), (q5, .inr (0, [.null, .int 0, .int 0]))]) (fun _ => rfl) dEV_init_5 (fun q5 H hw => ?_)
  refine lv_dup hx hb dEV_init_8 rfl ?_
  refine x_callv hw [1] rfl rfl (x_runIN (n := 0) (rest := [.ref q5, .ref q]) (As := []) S hw (i_CR l D cI cZ cV q5 _) xh_1_22 xh_1_20 xh_1_21 xh_1_2 rfl (by decide +kernel) ⟨by decide, by decide⟩ [1] rfl rfl rfl hl.1 rfl (Nat.le_of_ble_eq_true rfl) dEV_init_9 ⟨by decide, by decide⟩) (fun u H locs hp hx9 => ?_)
  obtain ⟨a9_0, rfl⟩ := hp
  have hw : xW D (xT3 cI cZ cV) A s.heap H locs [(q, .inr (5, [.null, .null, .null, .null, .null, .int 0, .null, .int 0])), (q5, .inr (0, [.ref a9_0, .int 0, .int 0])), (a9_0, .inl (cI, 64, .inl (fun _ => 0)))] s := hx9 [(q5, .inr (0, [.ref a9_0, .int 0, .int 0]))] [(a9_0, .inl (cI, 64, .inl (fun _ => 0)))] rfl rfl
  refine x_putF S hnm hw (C := REV) (T := TEV) (N := 8) inEV tyEV tyEV_ok nmEV 0 rfl rfl 0 (by decide) xh_1_99 rfl rfl (v := .ref q5) rfl rfl (Nat.le_of_ble_eq_true rfl) (ws' := [(q, .inr (5, [.ref q5, .null, .null, .null, .null, .int 0, .null, .int 0])), (q5, .inr (0, [.ref a9_0, .int 0, .int 0])), (a9_0, .inl (cI, 64, .inl (fun _ => 0)))]) rfl dEV_init_12 (fun H locs hw => ?_)
  refine lv_aload_n hx hb dEV_init_15 rfl (lv_at hl 0 rfl) ?_
  refine x_new S hw (C := RJO) (T := TJO) (N := 5) (ci := 2) inJO tyJO tyJO_ok rfl xh_1_36 xh_1_37 xh_1_3 (fs := [.null, .null, .null, .null, .int 0]) (by decide +kernel) (by decide) (by decide) (ws' := fun q16 => [(q, .inr (5, [.ref q5, .null, .null, .null, .null, .int 0, .null, .int 0])), (q5, .inr (0, [.ref a9_0, .int 0, .int 0])), (a9_0, .inl (cI, 64, .inl (fun _ => 0))), (q16, .inr (2, [.null, .null, .null, .null, .int 0]))]) (fun _ => rfl) dEV_init_16 (fun q16 H hw => ?_)
  refine lv_dup hx hb dEV_init_19 rfl ?_
  refine x_callv hw [3] rfl rfl (x_runIN (n := 0) (rest := [.ref q16, .ref q]) (As := []) S hw (i_JO l D cI cZ cV q16 _) xh_1_40 xh_1_38 xh_1_39 xh_1_3 rfl (by decide +kernel) ⟨by decide, by decide⟩ [3] rfl rfl rfl hl.1 rfl (Nat.le_of_ble_eq_true rfl) dEV_init_20 ⟨by decide, by decide⟩) (fun u H locs hp hx9 => ?_)
  obtain ⟨a20_0, a20_1, a20_2, a20_3, rfl⟩ := hp
  have hw : xW D (xT3 cI cZ cV) A s.heap H locs [(q, .inr (5, [.ref q5, .null, .null, .null, .null, .int 0, .null, .int 0])), (q5, .inr (0, [.ref a9_0, .int 0, .int 0])), (a9_0, .inl (cI, 64, .inl (fun _ => 0))), (q16, .inr (2, [.ref a20_0, .ref a20_1, .ref a20_2, .ref a20_3, .int 0])), (a20_0, .inl (cI, 80, .inl (fun _ => 0))), (a20_1, .inl (cI, 80, .inl (fun _ => 0))), (a20_2, .inl (cI, 80, .inl (fun _ => 0))), (a20_3, .inl (cI, 80, .inl (fun _ => 0)))] s := hx9 [(q16, .inr (2, [.ref a20_0, .ref a20_1, .ref a20_2, .ref a20_3, .int 0]))] [(a20_0, .inl (cI, 80, .inl (fun _ => 0))), (a20_1, .inl (cI, 80, .inl (fun _ => 0))), (a20_2, .inl (cI, 80, .inl (fun _ => 0))), (a20_3, .inl (cI, 80, .inl (fun _ => 0)))] rfl rfl
  refine x_putF S hnm hw (C := REV) (T := TEV) (N := 8) inEV tyEV tyEV_ok nmEV 0 rfl rfl 1 (by decide) xh_1_100 rfl rfl (v := .ref q16) rfl rfl (Nat.le_of_ble_eq_true rfl) (ws' := [(q, .inr (5, [.ref q5, .ref q16, .null, .null, .null, .int 0, .null, .int 0])), (q5, .inr (0, [.ref a9_0, .int 0, .int 0])), (a9_0, .inl (cI, 64, .inl (fun _ => 0))), (q16, .inr (2, [.ref a20_0, .ref a20_1, .ref a20_2, .ref a20_3, .int 0])), (a20_0, .inl (cI, 80, .inl (fun _ => 0))), (a20_1, .inl (cI, 80, .inl (fun _ => 0))), (a20_2, .inl (cI, 80, .inl (fun _ => 0))), (a20_3, .inl (cI, 80, .inl (fun _ => 0)))]) rfl dEV_init_23 (fun H locs hw => ?_)
  refine lv_aload_n hx hb dEV_init_26 rfl (lv_at hl 0 rfl) ?_
  refine x_new S hw (C := REN) (T := TEN) (N := 2) (ci := 1) inEN tyEN tyEN_ok rfl xh_1_63 xh_1_64 xh_1_4 (fs := [.null, .int 0]) (by decide +kernel) (by decide) (by decide) (ws' := fun q27 => [(q, .inr (5, [.ref q5, .ref q16, .null, .null, .null, .int 0, .null, .int 0])), (q5, .inr (0, [.ref a9_0, .int 0, .int 0])), (a9_0, .inl (cI, 64, .inl (fun _ => 0))), (q16, .inr (2, [.ref a20_0, .ref a20_1, .ref a20_2, .ref a20_3, .int 0])), (a20_0, .inl (cI, 80, .inl (fun _ => 0))), (a20_1, .inl (cI, 80, .inl (fun _ => 0))), (a20_2, .inl (cI, 80, .inl (fun _ => 0))), (a20_3, .inl (cI, 80, .inl (fun _ => 0))), (q27, .inr (1, [.null, .int 0]))]) (fun _ => rfl) dEV_init_27 (fun q27 H hw => ?_)
  refine lv_dup hx hb dEV_init_30 rfl ?_
  refine x_callv hw [8] rfl rfl (x_runIN (n := 0) (rest := [.ref q27, .ref q]) (As := []) S hw (i_EN l D cI cZ cV q27 _) xh_1_67 xh_1_65 xh_1_66 xh_1_4 rfl (by decide +kernel) ⟨by decide, by decide⟩ [8] rfl rfl rfl hl.1 rfl (Nat.le_of_ble_eq_true rfl) dEV_init_31 ⟨by decide, by decide⟩) (fun u H locs hp hx9 => ?_)
  obtain ⟨a31_0, rfl⟩ := hp
  have hw : xW D (xT3 cI cZ cV) A s.heap H locs [(q, .inr (5, [.ref q5, .ref q16, .null, .null, .null, .int 0, .null, .int 0])), (q5, .inr (0, [.ref a9_0, .int 0, .int 0])), (a9_0, .inl (cI, 64, .inl (fun _ => 0))), (q16, .inr (2, [.ref a20_0, .ref a20_1, .ref a20_2, .ref a20_3, .int 0])), (a20_0, .inl (cI, 80, .inl (fun _ => 0))), (a20_1, .inl (cI, 80, .inl (fun _ => 0))), (a20_2, .inl (cI, 80, .inl (fun _ => 0))), (a20_3, .inl (cI, 80, .inl (fun _ => 0))), (q27, .inr (1, [.ref a31_0, .int 0])), (a31_0, .inl (cI, 16, .inl (fun _ => 0)))] s := hx9 [(q27, .inr (1, [.ref a31_0, .int 0]))] [(a31_0, .inl (cI, 16, .inl (fun _ => 0)))] rfl rfl
  refine x_putF S hnm hw (C := REV) (T := TEV) (N := 8) inEV tyEV tyEV_ok nmEV 0 rfl rfl 2 (by decide) xh_1_101 rfl rfl (v := .ref q27) rfl rfl (Nat.le_of_ble_eq_true rfl) (ws' := [(q, .inr (5, [.ref q5, .ref q16, .ref q27, .null, .null, .int 0, .null, .int 0])), (q5, .inr (0, [.ref a9_0, .int 0, .int 0])), (a9_0, .inl (cI, 64, .inl (fun _ => 0))), (q16, .inr (2, [.ref a20_0, .ref a20_1, .ref a20_2, .ref a20_3, .int 0])), (a20_0, .inl (cI, 80, .inl (fun _ => 0))), (a20_1, .inl (cI, 80, .inl (fun _ => 0))), (a20_2, .inl (cI, 80, .inl (fun _ => 0))), (a20_3, .inl (cI, 80, .inl (fun _ => 0))), (q27, .inr (1, [.ref a31_0, .int 0])), (a31_0, .inl (cI, 16, .inl (fun _ => 0)))]) rfl dEV_init_34 (fun H locs hw => ?_)
  refine lv_aload_n hx hb dEV_init_37 rfl (lv_at hl 0 rfl) ?_
  refine x_new S hw (C := RSP) (T := TSP) (N := 3) (ci := 3) inSP tySP tySP_ok rfl xh_1_78 xh_1_79 xh_1_5 (fs := [.null, .null, .int 0]) (by decide +kernel) (by decide) (by decide) (ws' := fun q38 => [(q, .inr (5, [.ref q5, .ref q16, .ref q27, .null, .null, .int 0, .null, .int 0])), (q5, .inr (0, [.ref a9_0, .int 0, .int 0])), (a9_0, .inl (cI, 64, .inl (fun _ => 0))), (q16, .inr (2, [.ref a20_0, .ref a20_1, .ref a20_2, .ref a20_3, .int 0])), (a20_0, .inl (cI, 80, .inl (fun _ => 0))), (a20_1, .inl (cI, 80, .inl (fun _ => 0))), (a20_2, .inl (cI, 80, .inl (fun _ => 0))), (a20_3, .inl (cI, 80, .inl (fun _ => 0))), (q27, .inr (1, [.ref a31_0, .int 0])), (a31_0, .inl (cI, 16, .inl (fun _ => 0))), (q38, .inr (3, [.null, .null, .int 0]))]) (fun _ => rfl) dEV_init_38 (fun q38 H hw => ?_)
  refine lv_dup hx hb dEV_init_41 rfl ?_
  refine x_callv hw [10] rfl rfl (x_runIN (n := 0) (rest := [.ref q38, .ref q]) (As := []) S hw (i_SP l D cI cZ cV q38 _) xh_1_82 xh_1_80 xh_1_81 xh_1_5 rfl (by decide +kernel) ⟨by decide, by decide⟩ [10] rfl rfl rfl hl.1 rfl (Nat.le_of_ble_eq_true rfl) dEV_init_42 ⟨by decide, by decide⟩) (fun u H locs hp hx9 => ?_)
  obtain ⟨a42_0, a42_1, rfl⟩ := hp
  have hw : xW D (xT3 cI cZ cV) A s.heap H locs [(q, .inr (5, [.ref q5, .ref q16, .ref q27, .null, .null, .int 0, .null, .int 0])), (q5, .inr (0, [.ref a9_0, .int 0, .int 0])), (a9_0, .inl (cI, 64, .inl (fun _ => 0))), (q16, .inr (2, [.ref a20_0, .ref a20_1, .ref a20_2, .ref a20_3, .int 0])), (a20_0, .inl (cI, 80, .inl (fun _ => 0))), (a20_1, .inl (cI, 80, .inl (fun _ => 0))), (a20_2, .inl (cI, 80, .inl (fun _ => 0))), (a20_3, .inl (cI, 80, .inl (fun _ => 0))), (q27, .inr (1, [.ref a31_0, .int 0])), (a31_0, .inl (cI, 16, .inl (fun _ => 0))), (q38, .inr (3, [.ref a42_0, .ref a42_1, .int 0])), (a42_0, .inl (cI, 9, .inl (fun _ => 0))), (a42_1, .inl (cI, 8, .inl (fun _ => 0)))] s := hx9 [(q38, .inr (3, [.ref a42_0, .ref a42_1, .int 0]))] [(a42_0, .inl (cI, 9, .inl (fun _ => 0))), (a42_1, .inl (cI, 8, .inl (fun _ => 0)))] rfl rfl
  refine x_putF S hnm hw (C := REV) (T := TEV) (N := 8) inEV tyEV tyEV_ok nmEV 0 rfl rfl 3 (by decide) xh_1_102 rfl rfl (v := .ref q38) rfl rfl (Nat.le_of_ble_eq_true rfl) (ws' := [(q, .inr (5, [.ref q5, .ref q16, .ref q27, .ref q38, .null, .int 0, .null, .int 0])), (q5, .inr (0, [.ref a9_0, .int 0, .int 0])), (a9_0, .inl (cI, 64, .inl (fun _ => 0))), (q16, .inr (2, [.ref a20_0, .ref a20_1, .ref a20_2, .ref a20_3, .int 0])), (a20_0, .inl (cI, 80, .inl (fun _ => 0))), (a20_1, .inl (cI, 80, .inl (fun _ => 0))), (a20_2, .inl (cI, 80, .inl (fun _ => 0))), (a20_3, .inl (cI, 80, .inl (fun _ => 0))), (q27, .inr (1, [.ref a31_0, .int 0])), (a31_0, .inl (cI, 16, .inl (fun _ => 0))), (q38, .inr (3, [.ref a42_0, .ref a42_1, .int 0])), (a42_0, .inl (cI, 9, .inl (fun _ => 0))), (a42_1, .inl (cI, 8, .inl (fun _ => 0)))]) rfl dEV_init_45 (fun H locs hw => ?_)
  refine lv_aload_n hx hb dEV_init_48 rfl (lv_at hl 0 rfl) ?_
  refine lv_bipush (v := 8) hx hb dEV_init_49 (by decide) ?_
  refine x_newq S hw (N' := 8) xh_1_97 (by decide) (by decide) (by decide) (by decide) (by decide) (ws' := fun q51 => [(q, .inr (5, [.ref q5, .ref q16, .ref q27, .ref q38, .null, .int 0, .null, .int 0])), (q5, .inr (0, [.ref a9_0, .int 0, .int 0])), (a9_0, .inl (cI, 64, .inl (fun _ => 0))), (q16, .inr (2, [.ref a20_0, .ref a20_1, .ref a20_2, .ref a20_3, .int 0])), (a20_0, .inl (cI, 80, .inl (fun _ => 0))), (a20_1, .inl (cI, 80, .inl (fun _ => 0))), (a20_2, .inl (cI, 80, .inl (fun _ => 0))), (a20_3, .inl (cI, 80, .inl (fun _ => 0))), (q27, .inr (1, [.ref a31_0, .int 0])), (a31_0, .inl (cI, 16, .inl (fun _ => 0))), (q38, .inr (3, [.ref a42_0, .ref a42_1, .int 0])), (a42_0, .inl (cI, 9, .inl (fun _ => 0))), (a42_1, .inl (cI, 8, .inl (fun _ => 0))), (q51, .inl (cV, 8, .inr (.inr (.inr (.inr (fun _ => none))))))]) (fun _ => rfl) dEV_init_51 (fun q51 H hw => ?_)
  refine x_putF S hnm hw (C := REV) (T := TEV) (N := 8) inEV tyEV tyEV_ok nmEV 0 rfl rfl 4 (by decide) xh_1_103 rfl rfl (v := .ref q51) rfl rfl (Nat.le_of_ble_eq_true rfl) (ws' := [(q, .inr (5, [.ref q5, .ref q16, .ref q27, .ref q38, .ref q51, .int 0, .null, .int 0])), (q5, .inr (0, [.ref a9_0, .int 0, .int 0])), (a9_0, .inl (cI, 64, .inl (fun _ => 0))), (q16, .inr (2, [.ref a20_0, .ref a20_1, .ref a20_2, .ref a20_3, .int 0])), (a20_0, .inl (cI, 80, .inl (fun _ => 0))), (a20_1, .inl (cI, 80, .inl (fun _ => 0))), (a20_2, .inl (cI, 80, .inl (fun _ => 0))), (a20_3, .inl (cI, 80, .inl (fun _ => 0))), (q27, .inr (1, [.ref a31_0, .int 0])), (a31_0, .inl (cI, 16, .inl (fun _ => 0))), (q38, .inr (3, [.ref a42_0, .ref a42_1, .int 0])), (a42_0, .inl (cI, 9, .inl (fun _ => 0))), (a42_1, .inl (cI, 8, .inl (fun _ => 0))), (q51, .inl (cV, 8, .inr (.inr (.inr (.inr (fun _ => none))))))]) rfl dEV_init_54 (fun H locs hw => ?_)
  refine lv_aload_n hx hb dEV_init_57 rfl (lv_at hl 0 rfl) ?_
  refine lv_iconst (v := 0) hx hb dEV_init_58 (by decide) ?_
  refine x_put S hw (C := REV) (T := TEV) (N := 8) inEV tyEV tyEV_ok nmEV 0 rfl rfl 5 (by decide) xh_1_104 rfl (v := .int 0) rfl rfl (Nat.le_of_ble_eq_true rfl) (ws' := [(q, .inr (5, [.ref q5, .ref q16, .ref q27, .ref q38, .ref q51, .int 0, .null, .int 0])), (q5, .inr (0, [.ref a9_0, .int 0, .int 0])), (a9_0, .inl (cI, 64, .inl (fun _ => 0))), (q16, .inr (2, [.ref a20_0, .ref a20_1, .ref a20_2, .ref a20_3, .int 0])), (a20_0, .inl (cI, 80, .inl (fun _ => 0))), (a20_1, .inl (cI, 80, .inl (fun _ => 0))), (a20_2, .inl (cI, 80, .inl (fun _ => 0))), (a20_3, .inl (cI, 80, .inl (fun _ => 0))), (q27, .inr (1, [.ref a31_0, .int 0])), (a31_0, .inl (cI, 16, .inl (fun _ => 0))), (q38, .inr (3, [.ref a42_0, .ref a42_1, .int 0])), (a42_0, .inl (cI, 9, .inl (fun _ => 0))), (a42_1, .inl (cI, 8, .inl (fun _ => 0))), (q51, .inl (cV, 8, .inr (.inr (.inr (.inr (fun _ => none))))))]) rfl dEV_init_59 (fun H locs hw => ?_)
  refine lv_aload_n hx hb dEV_init_62 rfl (lv_at hl 0 rfl) ?_
  refine lv_null hx hb dEV_init_63 ?_
  refine x_put S hw (C := REV) (T := TEV) (N := 8) inEV tyEV tyEV_ok nmEV 0 rfl rfl 6 (by decide) xh_1_105 rfl (v := .null) rfl rfl (Nat.le_of_ble_eq_true rfl) (ws' := [(q, .inr (5, [.ref q5, .ref q16, .ref q27, .ref q38, .ref q51, .int 0, .null, .int 0])), (q5, .inr (0, [.ref a9_0, .int 0, .int 0])), (a9_0, .inl (cI, 64, .inl (fun _ => 0))), (q16, .inr (2, [.ref a20_0, .ref a20_1, .ref a20_2, .ref a20_3, .int 0])), (a20_0, .inl (cI, 80, .inl (fun _ => 0))), (a20_1, .inl (cI, 80, .inl (fun _ => 0))), (a20_2, .inl (cI, 80, .inl (fun _ => 0))), (a20_3, .inl (cI, 80, .inl (fun _ => 0))), (q27, .inr (1, [.ref a31_0, .int 0])), (a31_0, .inl (cI, 16, .inl (fun _ => 0))), (q38, .inr (3, [.ref a42_0, .ref a42_1, .int 0])), (a42_0, .inl (cI, 9, .inl (fun _ => 0))), (a42_1, .inl (cI, 8, .inl (fun _ => 0))), (q51, .inl (cV, 8, .inr (.inr (.inr (.inr (fun _ => none))))))]) rfl dEV_init_64 (fun H locs hw => ?_)
  refine lv_aload_n hx hb dEV_init_67 rfl (lv_at hl 0 rfl) ?_
  refine lv_iconst (v := 0) hx hb dEV_init_68 (by decide) ?_
  refine x_put S hw (C := REV) (T := TEV) (N := 8) inEV tyEV tyEV_ok nmEV 0 rfl rfl 7 (by decide) xh_1_106 rfl (v := .int 0) rfl rfl (Nat.le_of_ble_eq_true rfl) (ws' := [(q, .inr (5, [.ref q5, .ref q16, .ref q27, .ref q38, .ref q51, .int 0, .null, .int 0])), (q5, .inr (0, [.ref a9_0, .int 0, .int 0])), (a9_0, .inl (cI, 64, .inl (fun _ => 0))), (q16, .inr (2, [.ref a20_0, .ref a20_1, .ref a20_2, .ref a20_3, .int 0])), (a20_0, .inl (cI, 80, .inl (fun _ => 0))), (a20_1, .inl (cI, 80, .inl (fun _ => 0))), (a20_2, .inl (cI, 80, .inl (fun _ => 0))), (a20_3, .inl (cI, 80, .inl (fun _ => 0))), (q27, .inr (1, [.ref a31_0, .int 0])), (a31_0, .inl (cI, 16, .inl (fun _ => 0))), (q38, .inr (3, [.ref a42_0, .ref a42_1, .int 0])), (a42_0, .inl (cI, 9, .inl (fun _ => 0))), (a42_1, .inl (cI, 8, .inl (fun _ => 0))), (q51, .inl (cV, 8, .inr (.inr (.inr (.inr (fun _ => none))))))]) rfl dEV_init_69 (fun H locs hw => ?_)
  exact x_vret S hr hlk hw (by decide) (by decide) (⟨q5, a9_0, q16, a20_0, a20_1, a20_2, a20_3, q27, a31_0, q38, a42_0, a42_1, q51, rfl⟩) dEV_init_72

set_option maxHeartbeats 4000000 in
set_option maxRecDepth 100000 in
theorem f_coin_bad (l : Launch) (D : va_G) (cI cZ cV : ClassId) (h : Nat) (qc : Nat) (qj : Nat) (qe : Nat) (qs : Nat) (qm : Nat) (mc : Int32) (ctr : Int32) (act : Option Nat) (b : Int32) (hby : fIsB b = 0) : XI l yEV_coin cEV_coin 2 (some .boolean) D (xT3 cI cZ cV) 1 0 0 [.ref h, .int b] [(h, .inr (5, [.ref qc, .ref qj, .ref qe, .ref qs, .ref qm, .int mc, va_rf act, .int ctr]))] (fun r u => r = 0 ∧ u = [(h, .inr (5, [.ref qc, .ref qj, .ref qe, .ref qs, .ref qm, .int mc, va_rf act, .int ctr]))]) := by
  intro sz
  refine x_ofW (Qc := fun A => va_Qi _ (xB D A) A) sz (by decide) (Nat.le_of_ble_eq_true rfl) ?_
  intro p e s m args below meth c A ls S hr hlk hnm hw hl
  obtain ⟨hx, hb, hml, hown, hts⟩ := id S
  have hl : lv_has ls 2 [(0, .ref h), (1, .int b)] := hl
  refine lv_iload_n hx hb dEV_coin_0 rfl (lv_at hl 1 rfl) ?_
  refine x_calliD (ws' := [(h, .inr (5, [.ref qc, .ref qj, .ref qe, .ref qs, .ref qm, .int mc, va_rf act, .int ctr]))]) hw [] rfl rfl (x_runS (n := 1) (rest := []) (As := [.int b]) S hw (k_isB l D cI cZ cV b _) xh_1_130 xh_1_128 xh_1_129 xh_1_1 (by decide +kernel) ⟨by decide, by decide⟩ [] rfl rfl rfl hl.1 rfl (Nat.le_of_ble_eq_true rfl) dEV_coin_1 ⟨by decide, by decide⟩) rfl rfl (fun H locs hw => ?_)
  refine lv_if_eq (tgt := 19) hx hb dEV_coin_4 (by decide) (fun h4 => ?_) (fun h4 => absurd hby h4)
  refine lv_iconst (v := 0) hx hb dEV_coin_19 (by decide) ?_
  exact x_zret S hr hlk hw (by decide) (by decide) rfl (⟨rfl, rfl⟩) dEV_coin_20

set_option maxHeartbeats 4000000 in
set_option maxRecDepth 100000 in
theorem f_coin_full (l : Launch) (D : va_G) (cI cZ cV : ClassId) (h : Nat) (qc : Nat) (qj : Nat) (qe : Nat) (qs : Nat) (qm : Nat) (mc : Int32) (ctr : Int32) (act : Option Nat) (qr : Nat) (ring : Nat → Int32) (f : Nat) (n : Nat) (b : Int32) (hby : ¬ fIsB b = 0) (hn : n = 64) : XI l yEV_coin cEV_coin 2 (some .boolean) D (xT3 cI cZ cV) 1 0 0 [.ref h, .int b] [(h, .inr (5, [.ref qc, .ref qj, .ref qe, .ref qs, .ref qm, .int mc, va_rf act, .int ctr])), (qc, .inr (0, [.ref qr, .int (nI f), .int (nI n)])), (qr, .inl (cI, 64, .inl ring))] (fun r u => r = 0 ∧ u = [(h, .inr (5, [.ref qc, .ref qj, .ref qe, .ref qs, .ref qm, .int mc, va_rf act, .int ctr])), (qc, .inr (0, [.ref qr, .int (nI f), .int (nI n)])), (qr, .inl (cI, 64, .inl ring))]) := by
  intro sz
  refine x_ofW (Qc := fun A => va_Qi _ (xB D A) A) sz (by decide) (Nat.le_of_ble_eq_true rfl) ?_
  intro p e s m args below meth c A ls S hr hlk hnm hw hl
  obtain ⟨hx, hb, hml, hown, hts⟩ := id S
  have hl : lv_has ls 2 [(0, .ref h), (1, .int b)] := hl
  refine lv_iload_n hx hb dEV_coin_0 rfl (lv_at hl 1 rfl) ?_
  refine x_calliD (ws' := [(h, .inr (5, [.ref qc, .ref qj, .ref qe, .ref qs, .ref qm, .int mc, va_rf act, .int ctr])), (qc, .inr (0, [.ref qr, .int (nI f), .int (nI n)])), (qr, .inl (cI, 64, .inl ring))]) hw [] rfl rfl (x_runS (n := 1) (rest := []) (As := [.int b]) S hw (k_isB l D cI cZ cV b _) xh_1_130 xh_1_128 xh_1_129 xh_1_1 (by decide +kernel) ⟨by decide, by decide⟩ [] rfl rfl rfl hl.1 rfl (Nat.le_of_ble_eq_true rfl) dEV_coin_1 ⟨by decide, by decide⟩) rfl rfl (fun H locs hw => ?_)
  refine lv_if_eq (tgt := 19) hx hb dEV_coin_4 (by decide) (fun h4 => absurd h4 hby) (fun h4 => ?_)
  refine lv_aload_n hx hb dEV_coin_7 rfl (lv_at hl 0 rfl) ?_
  refine x_get S hw (C := REV) (T := TEV) (N := 8) inEV 0 rfl rfl 0 (by decide) xh_1_99 (v := .ref qc) rfl dEV_coin_8 ?_
  refine x_getN S hw (C := RCR) (T := TCR) (N := 3) inCR 1 rfl rfl 2 (by decide) xh_1_27 (v := .int (nI n)) rfl dEV_coin_11 ?_
  refine lv_bipush (v := 64) hx hb dEV_coin_14 (by decide) ?_
  refine lv_icmp_lt (tgt := 21) hx hb dEV_coin_16 (by decide) (fun h16 => absurd h16 (nI_nlt (b := 64) (by omega) (by omega))) (fun h16 => ?_)
  refine lv_iconst (v := 0) hx hb dEV_coin_19 (by decide) ?_
  exact x_zret S hr hlk hw (by decide) (by decide) rfl (⟨rfl, rfl⟩) dEV_coin_20

set_option maxHeartbeats 4000000 in
set_option maxRecDepth 100000 in
theorem f_coin_ok (l : Launch) (D : va_G) (cI cZ cV : ClassId) (h : Nat) (qc : Nat) (qj : Nat) (qe : Nat) (qs : Nat) (qm : Nat) (mc : Int32) (ctr : Int32) (act : Option Nat) (qr : Nat) (ring : Nat → Int32) (f : Nat) (n : Nat) (b : Int32) (hby : ¬ fIsB b = 0) (hn : n < 64) (hf : f < 64) : XI l yEV_coin cEV_coin 2 (some .boolean) D (xT3 cI cZ cV) 1 0 0 [.ref h, .int b] [(h, .inr (5, [.ref qc, .ref qj, .ref qe, .ref qs, .ref qm, .int mc, va_rf act, .int ctr])), (qc, .inr (0, [.ref qr, .int (nI f), .int (nI n)])), (qr, .inl (cI, 64, .inl ring))] (fun r u => r = 1 ∧ u = [(h, .inr (5, [.ref qc, .ref qj, .ref qe, .ref qs, .ref qm, .int mc, va_rf act, .int ctr])), (qc, .inr (0, [.ref qr, .int (nI f), .int (nI (n + 1))])), (qr, .inl (cI, 64, .inl (upd ring ((f + n) % 64) b)))]) := by
  intro sz
  refine x_ofW (Qc := fun A => va_Qi _ (xB D A) A) sz (by decide) (Nat.le_of_ble_eq_true rfl) ?_
  intro p e s m args below meth c A ls S hr hlk hnm hw hl
  obtain ⟨hx, hb, hml, hown, hts⟩ := id S
  have hl : lv_has ls 2 [(0, .ref h), (1, .int b)] := hl
  refine lv_iload_n hx hb dEV_coin_0 rfl (lv_at hl 1 rfl) ?_
  refine x_calliD (ws' := [(h, .inr (5, [.ref qc, .ref qj, .ref qe, .ref qs, .ref qm, .int mc, va_rf act, .int ctr])), (qc, .inr (0, [.ref qr, .int (nI f), .int (nI n)])), (qr, .inl (cI, 64, .inl ring))]) hw [] rfl rfl (x_runS (n := 1) (rest := []) (As := [.int b]) S hw (k_isB l D cI cZ cV b _) xh_1_130 xh_1_128 xh_1_129 xh_1_1 (by decide +kernel) ⟨by decide, by decide⟩ [] rfl rfl rfl hl.1 rfl (Nat.le_of_ble_eq_true rfl) dEV_coin_1 ⟨by decide, by decide⟩) rfl rfl (fun H locs hw => ?_)
  refine lv_if_eq (tgt := 19) hx hb dEV_coin_4 (by decide) (fun h4 => absurd h4 hby) (fun h4 => ?_)
  refine lv_aload_n hx hb dEV_coin_7 rfl (lv_at hl 0 rfl) ?_
  refine x_get S hw (C := REV) (T := TEV) (N := 8) inEV 0 rfl rfl 0 (by decide) xh_1_99 (v := .ref qc) rfl dEV_coin_8 ?_
  refine x_getN S hw (C := RCR) (T := TCR) (N := 3) inCR 1 rfl rfl 2 (by decide) xh_1_27 (v := .int (nI n)) rfl dEV_coin_11 ?_
  refine lv_bipush (v := 64) hx hb dEV_coin_14 (by decide) ?_
  refine lv_icmp_lt (tgt := 21) hx hb dEV_coin_16 (by decide) (fun h16 => ?_) (fun h16 => absurd (nI_lt (b := 64) hn (by decide)) h16)
  refine lv_aload_n hx hb dEV_coin_21 rfl (lv_at hl 0 rfl) ?_
  refine x_get S hw (C := REV) (T := TEV) (N := 8) inEV 0 rfl rfl 0 (by decide) xh_1_99 (v := .ref qc) rfl dEV_coin_22 ?_
  refine lv_iload_n hx hb dEV_coin_25 rfl (lv_at hl 1 rfl) ?_
  refine x_callvD (ws' := [(h, .inr (5, [.ref qc, .ref qj, .ref qe, .ref qs, .ref qm, .int mc, va_rf act, .int ctr])), (qc, .inr (0, [.ref qr, .int (nI f), .int (nI (n + 1))])), (qr, .inl (cI, 64, .inl (upd ring ((f + n) % 64) b)))]) hw [1, 2] rfl rfl (x_runV (n := 1) (rest := []) (As := [.int b]) S hw (k_putLast l D cI cZ cV qc qr ring f n b hf hn _) xh_1_134 xh_1_131 xh_1_132 xh_1_133 xh_1_2 (by decide +kernel) ⟨by decide, by decide⟩ [1, 2] rfl rfl (ci := 0) (q0 := 1) rfl rfl rfl hl.1 rfl (Nat.le_of_ble_eq_true rfl) dEV_coin_26 ⟨by decide, by decide⟩) rfl rfl (fun H locs hw => ?_)
  refine lv_iconst (v := 1) hx hb dEV_coin_29 (by decide) ?_
  exact x_zret S hr hlk hw (by decide) (by decide) rfl (⟨rfl, rfl⟩) dEV_coin_30

set_option maxHeartbeats 4000000 in
set_option maxRecDepth 100000 in
theorem f_coins (l : Launch) (D : va_G) (cI cZ cV : ClassId) (h : Nat) (qc : Nat) (qj : Nat) (qe : Nat) (qs : Nat) (qm : Nat) (mc : Int32) (ctr : Int32) (act : Option Nat) (qr : Nat) (ring : Nat → Int32) (f : Nat) (n : Nat) : XI l yEV_coins cEV_coins 1 (some .int) D (xT3 cI cZ cV) 0 0 0 [.ref h] [(h, .inr (5, [.ref qc, .ref qj, .ref qe, .ref qs, .ref qm, .int mc, va_rf act, .int ctr])), (qc, .inr (0, [.ref qr, .int (nI f), .int (nI n)])), (qr, .inl (cI, 64, .inl ring))] (fun r u => r = nI n ∧ u = [(h, .inr (5, [.ref qc, .ref qj, .ref qe, .ref qs, .ref qm, .int mc, va_rf act, .int ctr])), (qc, .inr (0, [.ref qr, .int (nI f), .int (nI n)])), (qr, .inl (cI, 64, .inl ring))]) := by
  intro sz
  refine x_ofW (Qc := fun A => va_Qi _ (xB D A) A) sz (by decide) (Nat.le_of_ble_eq_true rfl) ?_
  intro p e s m args below meth c A ls S hr hlk hnm hw hl
  obtain ⟨hx, hb, hml, hown, hts⟩ := id S
  have hl : lv_has ls 1 [(0, .ref h)] := hl
  refine lv_aload_n hx hb dEV_coins_0 rfl (lv_at hl 0 rfl) ?_
  refine x_get S hw (C := REV) (T := TEV) (N := 8) inEV 0 rfl rfl 0 (by decide) xh_1_99 (v := .ref qc) rfl dEV_coins_1 ?_
  refine x_getN S hw (C := RCR) (T := TCR) (N := 3) inCR 1 rfl rfl 2 (by decide) xh_1_27 (v := .int (nI n)) rfl dEV_coins_4 ?_
  exact x_iret S hr hlk hw (by decide) (by decide) (⟨rfl, rfl⟩) dEV_coins_7

set_option maxHeartbeats 4000000 in
set_option maxRecDepth 100000 in
theorem f_times_a (l : Launch) (D : va_G) (cI cZ cV : ClassId) (h : Nat) (a : Int32) (b : Int32) (ha : fIsB a = 0) : XI l yEV_times cEV_times 3 (some .int) D (xT3 cI cZ cV) 1 0 0 [.ref h, .int a, .int b] [] (fun r u => r = -1 ∧ u = []) := by
  intro sz
  refine x_ofW (Qc := fun A => va_Qi _ (xB D A) A) sz (by decide) (Nat.le_of_ble_eq_true rfl) ?_
  intro p e s m args below meth c A ls S hr hlk hnm hw hl
  obtain ⟨hx, hb, hml, hown, hts⟩ := id S
  have hl : lv_has ls 3 [(0, .ref h), (1, .int a), (2, .int b)] := hl
  refine lv_iload_n hx hb dEV_times_0 rfl (lv_at hl 1 rfl) ?_
  refine x_calliD (ws' := []) hw [] rfl rfl (x_runS (n := 1) (rest := []) (As := [.int a]) S hw (k_isB l D cI cZ cV a _) xh_1_130 xh_1_128 xh_1_129 xh_1_1 (by decide +kernel) ⟨by decide, by decide⟩ [] rfl rfl rfl hl.1 rfl (Nat.le_of_ble_eq_true rfl) dEV_times_1 ⟨by decide, by decide⟩) rfl rfl (fun H locs hw => ?_)
  refine lv_if_eq (tgt := 14) hx hb dEV_times_4 (by decide) (fun h4 => ?_) (fun h4 => absurd ha h4)
  refine lv_iconst (v := (-1)) hx hb dEV_times_14 (by decide) ?_
  exact x_iret S hr hlk hw (by decide) (by decide) (⟨rfl, rfl⟩) dEV_times_15

set_option maxHeartbeats 4000000 in
set_option maxRecDepth 100000 in
theorem f_times_b (l : Launch) (D : va_G) (cI cZ cV : ClassId) (h : Nat) (a : Int32) (b : Int32) (ha : ¬ fIsB a = 0) (hby : fIsB b = 0) : XI l yEV_times cEV_times 3 (some .int) D (xT3 cI cZ cV) 1 0 0 [.ref h, .int a, .int b] [] (fun r u => r = -1 ∧ u = []) := by
  intro sz
  refine x_ofW (Qc := fun A => va_Qi _ (xB D A) A) sz (by decide) (Nat.le_of_ble_eq_true rfl) ?_
  intro p e s m args below meth c A ls S hr hlk hnm hw hl
  obtain ⟨hx, hb, hml, hown, hts⟩ := id S
  have hl : lv_has ls 3 [(0, .ref h), (1, .int a), (2, .int b)] := hl
  refine lv_iload_n hx hb dEV_times_0 rfl (lv_at hl 1 rfl) ?_
  refine x_calliD (ws' := []) hw [] rfl rfl (x_runS (n := 1) (rest := []) (As := [.int a]) S hw (k_isB l D cI cZ cV a _) xh_1_130 xh_1_128 xh_1_129 xh_1_1 (by decide +kernel) ⟨by decide, by decide⟩ [] rfl rfl rfl hl.1 rfl (Nat.le_of_ble_eq_true rfl) dEV_times_1 ⟨by decide, by decide⟩) rfl rfl (fun H locs hw => ?_)
  refine lv_if_eq (tgt := 14) hx hb dEV_times_4 (by decide) (fun h4 => absurd h4 ha) (fun h4 => ?_)
  refine lv_iload_n hx hb dEV_times_7 rfl (lv_at hl 2 rfl) ?_
  refine x_calliD (ws' := []) hw [] rfl rfl (x_runS (n := 1) (rest := []) (As := [.int b]) S hw (k_isB l D cI cZ cV b _) xh_1_130 xh_1_128 xh_1_129 xh_1_1 (by decide +kernel) ⟨by decide, by decide⟩ [] rfl rfl rfl hl.1 rfl (Nat.le_of_ble_eq_true rfl) dEV_times_8 ⟨by decide, by decide⟩) rfl rfl (fun H locs hw => ?_)
  refine lv_if_ne (tgt := 16) hx hb dEV_times_11 (by decide) (fun h11 => absurd hby h11) (fun h11 => ?_)
  refine lv_iconst (v := (-1)) hx hb dEV_times_14 (by decide) ?_
  exact x_iret S hr hlk hw (by decide) (by decide) (⟨rfl, rfl⟩) dEV_times_15

set_option maxHeartbeats 4000000 in
set_option maxRecDepth 100000 in
theorem f_times_ok (l : Launch) (D : va_G) (cI cZ cV : ClassId) (h : Nat) (a : Int32) (b : Int32) (ha : ¬ fIsB a = 0) (hby : ¬ fIsB b = 0) : XI l yEV_times cEV_times 3 (some .int) D (xT3 cI cZ cV) 1 0 0 [.ref h, .int a, .int b] [] (fun r u => r = fProd a b ∧ u = []) := by
  intro sz
  refine x_ofW (Qc := fun A => va_Qi _ (xB D A) A) sz (by decide) (Nat.le_of_ble_eq_true rfl) ?_
  intro p e s m args below meth c A ls S hr hlk hnm hw hl
  obtain ⟨hx, hb, hml, hown, hts⟩ := id S
  have hl : lv_has ls 3 [(0, .ref h), (1, .int a), (2, .int b)] := hl
  refine lv_iload_n hx hb dEV_times_0 rfl (lv_at hl 1 rfl) ?_
  refine x_calliD (ws' := []) hw [] rfl rfl (x_runS (n := 1) (rest := []) (As := [.int a]) S hw (k_isB l D cI cZ cV a _) xh_1_130 xh_1_128 xh_1_129 xh_1_1 (by decide +kernel) ⟨by decide, by decide⟩ [] rfl rfl rfl hl.1 rfl (Nat.le_of_ble_eq_true rfl) dEV_times_1 ⟨by decide, by decide⟩) rfl rfl (fun H locs hw => ?_)
  refine lv_if_eq (tgt := 14) hx hb dEV_times_4 (by decide) (fun h4 => absurd h4 ha) (fun h4 => ?_)
  refine lv_iload_n hx hb dEV_times_7 rfl (lv_at hl 2 rfl) ?_
  refine x_calliD (ws' := []) hw [] rfl rfl (x_runS (n := 1) (rest := []) (As := [.int b]) S hw (k_isB l D cI cZ cV b _) xh_1_130 xh_1_128 xh_1_129 xh_1_1 (by decide +kernel) ⟨by decide, by decide⟩ [] rfl rfl rfl hl.1 rfl (Nat.le_of_ble_eq_true rfl) dEV_times_8 ⟨by decide, by decide⟩) rfl rfl (fun H locs hw => ?_)
  refine lv_if_ne (tgt := 16) hx hb dEV_times_11 (by decide) (fun h11 => ?_) (fun h11 => absurd h11 hby)
  refine lv_iload_n hx hb dEV_times_16 rfl (lv_at hl 1 rfl) ?_
  refine lv_iload_n hx hb dEV_times_17 rfl (lv_at hl 2 rfl) ?_
  refine x_calliD (ws' := []) hw [] rfl rfl (x_runS (n := 2) (rest := []) (As := [.int a, .int b]) S hw (k_prod l D cI cZ cV a b _) xh_1_145 xh_1_143 xh_1_144 xh_1_7 (by decide +kernel) ⟨by decide, by decide⟩ [] rfl rfl rfl hl.1 rfl (Nat.le_of_ble_eq_true rfl) dEV_times_18 ⟨by decide, by decide⟩) rfl rfl (fun H locs hw => ?_)
  exact x_iret S hr hlk hw (by decide) (by decide) (⟨rfl, rfl⟩) dEV_times_21

set_option maxHeartbeats 4000000 in
set_option maxRecDepth 100000 in
theorem f_rot_full1 (l : Launch) (D : va_G) (cI cZ cV : ClassId) (h : Nat) (qc : Nat) (qj : Nat) (qe : Nat) (qs : Nat) (qm : Nat) (ctr : Int32) (act : Option Nat) (n1 : Nat) (hn : n1 = 8) : XI l yEV_rotate cEV_rotate 2 (some .int) D (xT3 cI cZ cV) 1 0 0 [.ref h] [(h, .inr (5, [.ref qc, .ref qj, .ref qe, .ref qs, .ref qm, .int (nI n1), va_rf act, .int ctr]))] (fun r u => r = -2 ∧ u = [(h, .inr (5, [.ref qc, .ref qj, .ref qe, .ref qs, .ref qm, .int (nI n1), va_rf act, .int ctr]))]) := by
  intro sz
  refine x_ofW (Qc := fun A => va_Qi _ (xB D A) A) sz (by decide) (Nat.le_of_ble_eq_true rfl) ?_
  intro p e s m args below meth c A ls S hr hlk hnm hw hl
  obtain ⟨hx, hb, hml, hown, hts⟩ := id S
  have hl : lv_has ls 2 [(0, .ref h)] := hl
  refine lv_aload_n hx hb dEV_rotate_0 rfl (lv_at hl 0 rfl) ?_
  refine x_get S hw (C := REV) (T := TEV) (N := 8) inEV 0 rfl rfl 5 (by decide) xh_1_104 (v := .int (nI n1)) rfl dEV_rotate_1 ?_
  refine lv_bipush (v := 8) hx hb dEV_rotate_4 (by decide) ?_
  refine lv_icmp_ge (tgt := 20) hx hb dEV_rotate_6 (by decide) (fun h6 => ?_) (fun h6 => absurd (nI_le (a := 8) (by omega) (by omega)) h6)
  refine lv_bipush (v := (-2)) hx hb dEV_rotate_20 (by decide) ?_
  exact x_iret S hr hlk hw (by decide) (by decide) (⟨rfl, rfl⟩) dEV_rotate_22

set_option maxHeartbeats 4000000 in
set_option maxRecDepth 100000 in
theorem f_rot_full2 (l : Launch) (D : va_G) (cI cZ cV : ClassId) (h : Nat) (qc : Nat) (qj : Nat) (qe : Nat) (qs : Nat) (qm : Nat) (ctr : Int32) (act : Option Nat) (n1 : Nat) (j1 : Nat) (j2 : Nat) (j3 : Nat) (j4 : Nat) (ks : Nat → Int32) (ns : Nat → Int32) (ds : Nat → Int32) (ss : Nat → Int32) (c0 : Nat) (hn : n1 < 8) (hc : c0 = 80) : XI l yEV_rotate cEV_rotate 2 (some .int) D (xT3 cI cZ cV) 1 0 0 [.ref h] [(h, .inr (5, [.ref qc, .ref qj, .ref qe, .ref qs, .ref qm, .int (nI n1), va_rf act, .int ctr])), (qj, .inr (2, [.ref j1, .ref j2, .ref j3, .ref j4, .int (nI c0)])), (j1, .inl (cI, 80, .inl ks)), (j2, .inl (cI, 80, .inl ns)), (j3, .inl (cI, 80, .inl ds)), (j4, .inl (cI, 80, .inl ss))] (fun r u => r = -2 ∧ u = [(h, .inr (5, [.ref qc, .ref qj, .ref qe, .ref qs, .ref qm, .int (nI n1), va_rf act, .int ctr])), (qj, .inr (2, [.ref j1, .ref j2, .ref j3, .ref j4, .int (nI c0)])), (j1, .inl (cI, 80, .inl ks)), (j2, .inl (cI, 80, .inl ns)), (j3, .inl (cI, 80, .inl ds)), (j4, .inl (cI, 80, .inl ss))]) := by
  intro sz
  refine x_ofW (Qc := fun A => va_Qi _ (xB D A) A) sz (by decide) (Nat.le_of_ble_eq_true rfl) ?_
  intro p e s m args below meth c A ls S hr hlk hnm hw hl
  obtain ⟨hx, hb, hml, hown, hts⟩ := id S
  have hl : lv_has ls 2 [(0, .ref h)] := hl
  refine lv_aload_n hx hb dEV_rotate_0 rfl (lv_at hl 0 rfl) ?_
  refine x_get S hw (C := REV) (T := TEV) (N := 8) inEV 0 rfl rfl 5 (by decide) xh_1_104 (v := .int (nI n1)) rfl dEV_rotate_1 ?_
  refine lv_bipush (v := 8) hx hb dEV_rotate_4 (by decide) ?_
  refine lv_icmp_ge (tgt := 20) hx hb dEV_rotate_6 (by decide) (fun h6 => absurd h6 (nI_ge (b := 8) (by omega) (by decide))) (fun h6 => ?_)
  refine lv_aload_n hx hb dEV_rotate_9 rfl (lv_at hl 0 rfl) ?_
  refine x_get S hw (C := REV) (T := TEV) (N := 8) inEV 0 rfl rfl 1 (by decide) xh_1_100 (v := .ref qj) rfl dEV_rotate_10 ?_
  refine lv_iconst (v := 1) hx hb dEV_rotate_13 (by decide) ?_
  refine x_calliD (ws' := [(h, .inr (5, [.ref qc, .ref qj, .ref qe, .ref qs, .ref qm, .int (nI n1), va_rf act, .int ctr])), (qj, .inr (2, [.ref j1, .ref j2, .ref j3, .ref j4, .int (nI c0)])), (j1, .inl (cI, 80, .inl ks)), (j2, .inl (cI, 80, .inl ns)), (j3, .inl (cI, 80, .inl ds)), (j4, .inl (cI, 80, .inl ss))]) hw [1, 2, 3, 4, 5] rfl rfl (x_runV (n := 1) (rest := []) (As := [.int 1]) S hw (k_room_n l D cI cZ cV qj j1 j2 j3 j4 ks ns ds ss c0 1 (by omega) (by omega) _) xh_1_153 xh_1_150 xh_1_151 xh_1_152 xh_1_3 (by decide +kernel) ⟨by decide, by decide⟩ [1, 2, 3, 4, 5] rfl rfl (ci := 2) (q0 := 1) rfl rfl rfl hl.1 rfl (Nat.le_of_ble_eq_true rfl) dEV_rotate_14 ⟨by decide, by decide⟩) rfl rfl (fun H locs hw => ?_)
  refine lv_if_ne (tgt := 23) hx hb dEV_rotate_17 (by decide) (fun h17 => absurd rfl h17) (fun h17 => ?_)
  refine lv_bipush (v := (-2)) hx hb dEV_rotate_20 (by decide) ?_
  exact x_iret S hr hlk hw (by decide) (by decide) (⟨rfl, rfl⟩) dEV_rotate_22

set_option maxHeartbeats 4000000 in
set_option maxRecDepth 100000 in
theorem f_rot_coins (l : Launch) (D : va_G) (cI cZ cV : ClassId) (h : Nat) (qc : Nat) (qj : Nat) (qe : Nat) (qs : Nat) (qm : Nat) (ctr : Int32) (act : Option Nat) (n1 : Nat) (qr : Nat) (ring : Nat → Int32) (f : Nat) (n : Nat) (j1 : Nat) (j2 : Nat) (j3 : Nat) (j4 : Nat) (ks : Nat → Int32) (ns : Nat → Int32) (ds : Nat → Int32) (ss : Nat → Int32) (c0 : Nat) (hn : n1 < 8) (hc : c0 < 80) (hk : n < 4) : XI l yEV_rotate cEV_rotate 2 (some .int) D (xT3 cI cZ cV) 1 0 0 [.ref h] [(h, .inr (5, [.ref qc, .ref qj, .ref qe, .ref qs, .ref qm, .int (nI n1), va_rf act, .int ctr])), (qj, .inr (2, [.ref j1, .ref j2, .ref j3, .ref j4, .int (nI c0)])), (j1, .inl (cI, 80, .inl ks)), (j2, .inl (cI, 80, .inl ns)), (j3, .inl (cI, 80, .inl ds)), (j4, .inl (cI, 80, .inl ss)), (qc, .inr (0, [.ref qr, .int (nI f), .int (nI n)])), (qr, .inl (cI, 64, .inl ring))] (fun r u => r = -3 ∧ u = [(h, .inr (5, [.ref qc, .ref qj, .ref qe, .ref qs, .ref qm, .int (nI n1), va_rf act, .int ctr])), (qj, .inr (2, [.ref j1, .ref j2, .ref j3, .ref j4, .int (nI c0)])), (j1, .inl (cI, 80, .inl ks)), (j2, .inl (cI, 80, .inl ns)), (j3, .inl (cI, 80, .inl ds)), (j4, .inl (cI, 80, .inl ss)), (qc, .inr (0, [.ref qr, .int (nI f), .int (nI n)])), (qr, .inl (cI, 64, .inl ring))]) := by
  intro sz
  refine x_ofW (Qc := fun A => va_Qi _ (xB D A) A) sz (by decide) (Nat.le_of_ble_eq_true rfl) ?_
  intro p e s m args below meth c A ls S hr hlk hnm hw hl
  obtain ⟨hx, hb, hml, hown, hts⟩ := id S
  have hl : lv_has ls 2 [(0, .ref h)] := hl
  refine lv_aload_n hx hb dEV_rotate_0 rfl (lv_at hl 0 rfl) ?_
  refine x_get S hw (C := REV) (T := TEV) (N := 8) inEV 0 rfl rfl 5 (by decide) xh_1_104 (v := .int (nI n1)) rfl dEV_rotate_1 ?_
  refine lv_bipush (v := 8) hx hb dEV_rotate_4 (by decide) ?_
  refine lv_icmp_ge (tgt := 20) hx hb dEV_rotate_6 (by decide) (fun h6 => absurd h6 (nI_ge (b := 8) (by omega) (by decide))) (fun h6 => ?_)
  refine lv_aload_n hx hb dEV_rotate_9 rfl (lv_at hl 0 rfl) ?_
  refine x_get S hw (C := REV) (T := TEV) (N := 8) inEV 0 rfl rfl 1 (by decide) xh_1_100 (v := .ref qj) rfl dEV_rotate_10 ?_
  refine lv_iconst (v := 1) hx hb dEV_rotate_13 (by decide) ?_
  refine x_calliD (ws' := [(h, .inr (5, [.ref qc, .ref qj, .ref qe, .ref qs, .ref qm, .int (nI n1), va_rf act, .int ctr])), (qj, .inr (2, [.ref j1, .ref j2, .ref j3, .ref j4, .int (nI c0)])), (j1, .inl (cI, 80, .inl ks)), (j2, .inl (cI, 80, .inl ns)), (j3, .inl (cI, 80, .inl ds)), (j4, .inl (cI, 80, .inl ss)), (qc, .inr (0, [.ref qr, .int (nI f), .int (nI n)])), (qr, .inl (cI, 64, .inl ring))]) hw [1, 2, 3, 4, 5] rfl rfl (x_runV (n := 1) (rest := []) (As := [.int 1]) S hw (k_room_y l D cI cZ cV qj j1 j2 j3 j4 ks ns ds ss c0 1 (by omega) _) xh_1_153 xh_1_150 xh_1_151 xh_1_152 xh_1_3 (by decide +kernel) ⟨by decide, by decide⟩ [1, 2, 3, 4, 5] rfl rfl (ci := 2) (q0 := 1) rfl rfl rfl hl.1 rfl (Nat.le_of_ble_eq_true rfl) dEV_rotate_14 ⟨by decide, by decide⟩) rfl rfl (fun H locs hw => ?_)
  refine lv_if_ne (tgt := 23) hx hb dEV_rotate_17 (by decide) (fun h17 => ?_) (fun h17 => absurd h17 (by decide))
  refine lv_aload_n hx hb dEV_rotate_23 rfl (lv_at hl 0 rfl) ?_
  refine x_get S hw (C := REV) (T := TEV) (N := 8) inEV 0 rfl rfl 0 (by decide) xh_1_99 (v := .ref qc) rfl dEV_rotate_24 ?_
  refine x_getN S hw (C := RCR) (T := TCR) (N := 3) inCR 6 rfl rfl 2 (by decide) xh_1_27 (v := .int (nI n)) rfl dEV_rotate_27 ?_
  refine lv_iconst (v := 4) hx hb dEV_rotate_30 (by decide) ?_
  refine lv_icmp_ge (tgt := 37) hx hb dEV_rotate_31 (by decide) (fun h31 => absurd h31 (nI_ge (b := 4) (by omega) (by decide))) (fun h31 => ?_)
  refine lv_bipush (v := (-3)) hx hb dEV_rotate_34 (by decide) ?_
  exact x_iret S hr hlk hw (by decide) (by decide) (⟨rfl, rfl⟩) dEV_rotate_36

set_option maxHeartbeats 4000000 in
set_option maxRecDepth 100000 in
theorem f_rot_none (l : Launch) (D : va_G) (cI cZ cV : ClassId) (h : Nat) (qc : Nat) (qj : Nat) (qe : Nat) (qs : Nat) (qm : Nat) (ctr : Int32) (n1 : Nat) (qr : Nat) (ring : Nat → Int32) (f : Nat) (n : Nat) (j1 : Nat) (j2 : Nat) (j3 : Nat) (j4 : Nat) (ks : Nat → Int32) (ns : Nat → Int32) (ds : Nat → Int32) (ss : Nat → Int32) (c0 : Nat) (mk : Nat → Option Nat) (hn : n1 < 8) (hc : c0 < 80) (hf : f < 64) (hk : n ≤ 60) : XI l yEV_rotate cEV_rotate 2 (some .int) D (xT3 cI cZ cV) 2 3 28 [.ref h] [(h, .inr (5, [.ref qc, .ref qj, .ref qe, .ref qs, .ref qm, .int (nI n1), .null, .int ctr])), (qj, .inr (2, [.ref j1, .ref j2, .ref j3, .ref j4, .int (nI c0)])), (j1, .inl (cI, 80, .inl ks)), (j2, .inl (cI, 80, .inl ns)), (j3, .inl (cI, 80, .inl ds)), (j4, .inl (cI, 80, .inl ss)), (qc, .inr (0, [.ref qr, .int (nI f), .int (nI (n + 4))])), (qr, .inl (cI, 64, .inl ring)), (qm, .inl (cV, 8, .inr (.inr (.inr (.inr mk)))))] (fun r u => r = nI n1 ∧ ∃ a0 a1 a2 : Nat, u = [(h, .inr (5, [.ref qc, .ref qj, .ref qe, .ref qs, .ref qm, .int (nI (n1 + 1)), .ref a0, .int ctr])), (qj, .inr (2, [.ref j1, .ref j2, .ref j3, .ref j4, .int (nI (c0 + 1))])), (j1, .inl (cI, 80, .inl (upd ks c0 (1)))), (j2, .inl (cI, 80, .inl (upd ns c0 (nI n1)))), (j3, .inl (cI, 80, .inl (upd ds c0 (0)))), (j4, .inl (cI, 80, .inl (upd ss c0 (fMix (fMix (fMix (jBef ss c0) (1)) (nI n1)) (0))))), (qc, .inr (0, [.ref qr, .int (nI ((f + 4) % 64)), .int (nI n)])), (qr, .inl (cI, 64, .inl (tkR ring f 4))), (qm, .inl (cV, 8, .inr (.inr (.inr (.inr (va_up mk n1 (some a0))))))), (a0, .inr (4, [.int (nI n1), .ref a1, .ref a2, .int 1, .int (tiF ring f 4), .int 0, .int 0, .int 0, .int 0, .int 0])), (a1, .inl (cI, 9, .inl (fun _ => 0))), (a2, .inl (cI, 9, .inl (fun _ => 0)))]) := by
  intro sz
  refine x_ofW (Qc := fun A => va_Qi _ (xB D A) A) sz (by decide) (Nat.le_of_ble_eq_true rfl) ?_
  intro p e s m args below meth c A ls S hr hlk hnm hw hl
  obtain ⟨hx, hb, hml, hown, hts⟩ := id S
  have hl : lv_has ls 2 [(0, .ref h)] := hl
  refine lv_aload_n hx hb dEV_rotate_0 rfl (lv_at hl 0 rfl) ?_
  refine x_get S hw (C := REV) (T := TEV) (N := 8) inEV 0 rfl rfl 5 (by decide) xh_1_104 (v := .int (nI n1)) rfl dEV_rotate_1 ?_
  refine lv_bipush (v := 8) hx hb dEV_rotate_4 (by decide) ?_
  refine lv_icmp_ge (tgt := 20) hx hb dEV_rotate_6 (by decide) (fun h6 => absurd h6 (nI_ge (b := 8) (by omega) (by decide))) (fun h6 => ?_)
  refine lv_aload_n hx hb dEV_rotate_9 rfl (lv_at hl 0 rfl) ?_
  refine x_get S hw (C := REV) (T := TEV) (N := 8) inEV 0 rfl rfl 1 (by decide) xh_1_100 (v := .ref qj) rfl dEV_rotate_10 ?_
  refine lv_iconst (v := 1) hx hb dEV_rotate_13 (by decide) ?_
  refine x_calliD (ws' := [(h, .inr (5, [.ref qc, .ref qj, .ref qe, .ref qs, .ref qm, .int (nI n1), .null, .int ctr])), (qj, .inr (2, [.ref j1, .ref j2, .ref j3, .ref j4, .int (nI c0)])), (j1, .inl (cI, 80, .inl ks)), (j2, .inl (cI, 80, .inl ns)), (j3, .inl (cI, 80, .inl ds)), (j4, .inl (cI, 80, .inl ss)), (qc, .inr (0, [.ref qr, .int (nI f), .int (nI (n + 4))])), (qr, .inl (cI, 64, .inl ring)), (qm, .inl (cV, 8, .inr (.inr (.inr (.inr mk)))))]) hw [1, 2, 3, 4, 5] rfl rfl (x_runV (n := 1) (rest := []) (As := [.int 1]) S hw (k_room_y l D cI cZ cV qj j1 j2 j3 j4 ks ns ds ss c0 1 (by omega) _) xh_1_153 xh_1_150 xh_1_151 xh_1_152 xh_1_3 (by decide +kernel) ⟨by decide, by decide⟩ [1, 2, 3, 4, 5] rfl rfl (ci := 2) (q0 := 1) rfl rfl rfl hl.1 rfl (Nat.le_of_ble_eq_true rfl) dEV_rotate_14 ⟨by decide, by decide⟩) rfl rfl (fun H locs hw => ?_)
  refine lv_if_ne (tgt := 23) hx hb dEV_rotate_17 (by decide) (fun h17 => ?_) (fun h17 => absurd h17 (by decide))
  refine lv_aload_n hx hb dEV_rotate_23 rfl (lv_at hl 0 rfl) ?_
  refine x_get S hw (C := REV) (T := TEV) (N := 8) inEV 0 rfl rfl 0 (by decide) xh_1_99 (v := .ref qc) rfl dEV_rotate_24 ?_
  refine x_getN S hw (C := RCR) (T := TCR) (N := 3) inCR 6 rfl rfl 2 (by decide) xh_1_27 (v := .int (nI (n + 4))) rfl dEV_rotate_27 ?_
  refine lv_iconst (v := 4) hx hb dEV_rotate_30 (by decide) ?_
  refine lv_icmp_ge (tgt := 37) hx hb dEV_rotate_31 (by decide) (fun h31 => ?_) (fun h31 => absurd (nI_le (a := 4) (b := n + 4) (by omega) (by omega)) h31)
  refine lv_iconst (v := 0) hx hb dEV_rotate_37 (by decide) ?_
  refine lv_istore_n (lv' := [(1, .int 0), (0, .ref h)]) hx hb dEV_rotate_38 rfl hl (by decide) rfl (fun ls hl => ?_)
  refine lv_aload_n hx hb dEV_rotate_39 rfl (lv_at hl 1 rfl) ?_
  refine x_get S hw (C := REV) (T := TEV) (N := 8) inEV 0 rfl rfl 6 (by decide) xh_1_105 (v := .null) rfl dEV_rotate_40 ?_
  refine lv_ifnullN (tgt := 64) hx hb dEV_rotate_43 (by decide) ?_
  refine lv_aload_n hx hb dEV_rotate_64 rfl (lv_at hl 1 rfl) ?_
  refine x_new S hw (C := RVE) (T := TVE) (N := 10) (ci := 4) inVE tyVE tyVE_ok rfl xh_1_97 xh_1_154 xh_1_8 (fs := [.int 0, .null, .null, .int 0, .int 0, .int 0, .int 0, .int 0, .int 0, .int 0]) (by decide +kernel) (by decide) (by decide) (ws' := fun q65 => [(h, .inr (5, [.ref qc, .ref qj, .ref qe, .ref qs, .ref qm, .int (nI n1), .null, .int ctr])), (qj, .inr (2, [.ref j1, .ref j2, .ref j3, .ref j4, .int (nI c0)])), (j1, .inl (cI, 80, .inl ks)), (j2, .inl (cI, 80, .inl ns)), (j3, .inl (cI, 80, .inl ds)), (j4, .inl (cI, 80, .inl ss)), (qc, .inr (0, [.ref qr, .int (nI f), .int (nI (n + 4))])), (qr, .inl (cI, 64, .inl ring)), (qm, .inl (cV, 8, .inr (.inr (.inr (.inr mk))))), (q65, .inr (4, [.int 0, .null, .null, .int 0, .int 0, .int 0, .int 0, .int 0, .int 0, .int 0]))]) (fun _ => rfl) dEV_rotate_65 (fun q65 H hw => ?_)
  refine lv_dup hx hb dEV_rotate_68 rfl ?_
  refine lv_aload_n hx hb dEV_rotate_69 rfl (lv_at hl 1 rfl) ?_
  refine x_get S hw (C := REV) (T := TEV) (N := 8) inEV 0 rfl rfl 5 (by decide) xh_1_104 (v := .int (nI n1)) rfl dEV_rotate_70 ?_
  refine lv_aload_n hx hb dEV_rotate_73 rfl (lv_at hl 1 rfl) ?_
  refine x_get S hw (C := REV) (T := TEV) (N := 8) inEV 0 rfl rfl 0 (by decide) xh_1_99 (v := .ref qc) rfl dEV_rotate_74 ?_
  refine x_calliD (ws' := [(h, .inr (5, [.ref qc, .ref qj, .ref qe, .ref qs, .ref qm, .int (nI n1), .null, .int ctr])), (qj, .inr (2, [.ref j1, .ref j2, .ref j3, .ref j4, .int (nI c0)])), (j1, .inl (cI, 80, .inl ks)), (j2, .inl (cI, 80, .inl ns)), (j3, .inl (cI, 80, .inl ds)), (j4, .inl (cI, 80, .inl ss)), (qc, .inr (0, [.ref qr, .int (nI ((f + 4) % 64)), .int (nI n)])), (qr, .inl (cI, 64, .inl (tkR ring f 4))), (qm, .inl (cV, 8, .inr (.inr (.inr (.inr mk))))), (q65, .inr (4, [.int 0, .null, .null, .int 0, .int 0, .int 0, .int 0, .int 0, .int 0, .int 0]))]) hw [6, 7] rfl rfl (x_runV (n := 0) (rest := [.int (nI n1), .ref q65, .ref q65, .ref h]) (As := []) S hw (k_takeInt l D cI cZ cV qc qr ring f n hf _) xh_1_158 xh_1_155 xh_1_156 xh_1_157 xh_1_2 (by decide +kernel) ⟨by decide, by decide⟩ [6, 7] rfl rfl (ci := 0) (q0 := 6) rfl rfl rfl hl.1 rfl (Nat.le_of_ble_eq_true rfl) dEV_rotate_77 ⟨by decide, by decide⟩) rfl rfl (fun H locs hw => ?_)
  refine x_callv hw [9] rfl rfl (x_runI (n := 2) (rest := [.ref q65, .ref h]) (As := [.int (nI n1), .int (tiF ring f 4)]) S hw (i_VE l D cI cZ cV q65 (nI n1) (tiF ring f 4) _) xh_1_165 xh_1_163 xh_1_164 xh_1_8 rfl (by decide +kernel) ⟨by decide, by decide⟩ [9] rfl rfl rfl hl.1 rfl (Nat.le_of_ble_eq_true rfl) dEV_rotate_80 ⟨by decide, by decide⟩) (fun u H locs hp hx9 => ?_)
  obtain ⟨a80_0, a80_1, rfl⟩ := hp
  have hw : xW D (xT3 cI cZ cV) A s.heap H locs [(h, .inr (5, [.ref qc, .ref qj, .ref qe, .ref qs, .ref qm, .int (nI n1), .null, .int ctr])), (qj, .inr (2, [.ref j1, .ref j2, .ref j3, .ref j4, .int (nI c0)])), (j1, .inl (cI, 80, .inl ks)), (j2, .inl (cI, 80, .inl ns)), (j3, .inl (cI, 80, .inl ds)), (j4, .inl (cI, 80, .inl ss)), (qc, .inr (0, [.ref qr, .int (nI ((f + 4) % 64)), .int (nI n)])), (qr, .inl (cI, 64, .inl (tkR ring f 4))), (qm, .inl (cV, 8, .inr (.inr (.inr (.inr mk))))), (q65, .inr (4, [.int (nI n1), .ref a80_0, .ref a80_1, .int 1, .int (tiF ring f 4), .int 0, .int 0, .int 0, .int 0, .int 0])), (a80_0, .inl (cI, 9, .inl (fun _ => 0))), (a80_1, .inl (cI, 9, .inl (fun _ => 0)))] s := hx9 [(q65, .inr (4, [.int (nI n1), .ref a80_0, .ref a80_1, .int 1, .int (tiF ring f 4), .int 0, .int 0, .int 0, .int 0, .int 0]))] [(a80_0, .inl (cI, 9, .inl (fun _ => 0))), (a80_1, .inl (cI, 9, .inl (fun _ => 0)))] rfl rfl
  refine x_put S hw (C := REV) (T := TEV) (N := 8) inEV tyEV tyEV_ok nmEV 0 rfl rfl 6 (by decide) xh_1_105 rfl (v := .ref q65) rfl rfl (Nat.le_of_ble_eq_true rfl) (ws' := [(h, .inr (5, [.ref qc, .ref qj, .ref qe, .ref qs, .ref qm, .int (nI n1), .ref q65, .int ctr])), (qj, .inr (2, [.ref j1, .ref j2, .ref j3, .ref j4, .int (nI c0)])), (j1, .inl (cI, 80, .inl ks)), (j2, .inl (cI, 80, .inl ns)), (j3, .inl (cI, 80, .inl ds)), (j4, .inl (cI, 80, .inl ss)), (qc, .inr (0, [.ref qr, .int (nI ((f + 4) % 64)), .int (nI n)])), (qr, .inl (cI, 64, .inl (tkR ring f 4))), (qm, .inl (cV, 8, .inr (.inr (.inr (.inr mk))))), (q65, .inr (4, [.int (nI n1), .ref a80_0, .ref a80_1, .int 1, .int (tiF ring f 4), .int 0, .int 0, .int 0, .int 0, .int 0])), (a80_0, .inl (cI, 9, .inl (fun _ => 0))), (a80_1, .inl (cI, 9, .inl (fun _ => 0)))]) rfl dEV_rotate_83 (fun H locs hw => ?_)
  refine lv_aload_n hx hb dEV_rotate_86 rfl (lv_at hl 1 rfl) ?_
  refine x_get S hw (C := REV) (T := TEV) (N := 8) inEV 0 rfl rfl 4 (by decide) xh_1_103 (v := .ref qm) rfl dEV_rotate_87 ?_
  refine lv_aload_n hx hb dEV_rotate_90 rfl (lv_at hl 1 rfl) ?_
  refine x_get S hw (C := REV) (T := TEV) (N := 8) inEV 0 rfl rfl 5 (by decide) xh_1_104 (v := .int (nI n1)) rfl dEV_rotate_91 ?_
  refine lv_aload_n hx hb dEV_rotate_94 rfl (lv_at hl 1 rfl) ?_
  refine x_get S hw (C := REV) (T := TEV) (N := 8) inEV 0 rfl rfl 6 (by decide) xh_1_105 (v := .ref q65) rfl dEV_rotate_95 ?_
  refine x_aast S hw 8 2 9 4 rfl rfl rfl rfl (j := n1) (vp_in_nI (by omega) (by omega)) (nI_clamp (by omega)) (ws' := [(h, .inr (5, [.ref qc, .ref qj, .ref qe, .ref qs, .ref qm, .int (nI n1), .ref q65, .int ctr])), (qj, .inr (2, [.ref j1, .ref j2, .ref j3, .ref j4, .int (nI c0)])), (j1, .inl (cI, 80, .inl ks)), (j2, .inl (cI, 80, .inl ns)), (j3, .inl (cI, 80, .inl ds)), (j4, .inl (cI, 80, .inl ss)), (qc, .inr (0, [.ref qr, .int (nI ((f + 4) % 64)), .int (nI n)])), (qr, .inl (cI, 64, .inl (tkR ring f 4))), (qm, .inl (cV, 8, .inr (.inr (.inr (.inr (va_up mk n1 (some q65))))))), (q65, .inr (4, [.int (nI n1), .ref a80_0, .ref a80_1, .int 1, .int (tiF ring f 4), .int 0, .int 0, .int 0, .int 0, .int 0])), (a80_0, .inl (cI, 9, .inl (fun _ => 0))), (a80_1, .inl (cI, 9, .inl (fun _ => 0)))]) rfl dEV_rotate_98 (fun H locs hw => ?_)
  refine lv_aload_n hx hb dEV_rotate_99 rfl (lv_at hl 1 rfl) ?_
  refine lv_dup hx hb dEV_rotate_100 rfl ?_
  refine x_get S hw (C := REV) (T := TEV) (N := 8) inEV 0 rfl rfl 5 (by decide) xh_1_104 (v := .int (nI n1)) rfl dEV_rotate_101 ?_
  refine lv_iconst (v := 1) hx hb dEV_rotate_104 (by decide) ?_
  refine lv_iadd hx hb dEV_rotate_105 ?_
  refine x_topi (y := nI (n1 + 1)) ((nI_succ _).symm) ?_
  refine x_put S hw (C := REV) (T := TEV) (N := 8) inEV tyEV tyEV_ok nmEV 0 rfl rfl 5 (by decide) xh_1_104 rfl (v := .int (nI (n1 + 1))) rfl rfl (Nat.le_of_ble_eq_true rfl) (ws' := [(h, .inr (5, [.ref qc, .ref qj, .ref qe, .ref qs, .ref qm, .int (nI (n1 + 1)), .ref q65, .int ctr])), (qj, .inr (2, [.ref j1, .ref j2, .ref j3, .ref j4, .int (nI c0)])), (j1, .inl (cI, 80, .inl ks)), (j2, .inl (cI, 80, .inl ns)), (j3, .inl (cI, 80, .inl ds)), (j4, .inl (cI, 80, .inl ss)), (qc, .inr (0, [.ref qr, .int (nI ((f + 4) % 64)), .int (nI n)])), (qr, .inl (cI, 64, .inl (tkR ring f 4))), (qm, .inl (cV, 8, .inr (.inr (.inr (.inr (va_up mk n1 (some q65))))))), (q65, .inr (4, [.int (nI n1), .ref a80_0, .ref a80_1, .int 1, .int (tiF ring f 4), .int 0, .int 0, .int 0, .int 0, .int 0])), (a80_0, .inl (cI, 9, .inl (fun _ => 0))), (a80_1, .inl (cI, 9, .inl (fun _ => 0)))]) rfl dEV_rotate_106 (fun H locs hw => ?_)
  refine lv_aload_n hx hb dEV_rotate_109 rfl (lv_at hl 1 rfl) ?_
  refine x_get S hw (C := REV) (T := TEV) (N := 8) inEV 0 rfl rfl 1 (by decide) xh_1_100 (v := .ref qj) rfl dEV_rotate_110 ?_
  refine lv_iconst (v := 1) hx hb dEV_rotate_113 (by decide) ?_
  refine lv_aload_n hx hb dEV_rotate_114 rfl (lv_at hl 1 rfl) ?_
  refine x_get S hw (C := REV) (T := TEV) (N := 8) inEV 0 rfl rfl 6 (by decide) xh_1_105 (v := .ref q65) rfl dEV_rotate_115 ?_
  refine x_getN S hw (C := RVE) (T := TVE) (N := 10) inVE 9 rfl rfl 0 (by decide) xh_1_168 (v := .int (nI n1)) rfl dEV_rotate_118 ?_
  refine lv_iload_n hx hb dEV_rotate_121 rfl (lv_at hl 0 rfl) ?_
  refine x_callvD (ws' := [(h, .inr (5, [.ref qc, .ref qj, .ref qe, .ref qs, .ref qm, .int (nI (n1 + 1)), .ref q65, .int ctr])), (qj, .inr (2, [.ref j1, .ref j2, .ref j3, .ref j4, .int (nI (c0 + 1))])), (j1, .inl (cI, 80, .inl (upd ks c0 1))), (j2, .inl (cI, 80, .inl (upd ns c0 (nI n1)))), (j3, .inl (cI, 80, .inl (upd ds c0 0))), (j4, .inl (cI, 80, .inl (upd ss c0 (fMix (fMix (fMix (jBef ss c0) 1) (nI n1)) 0)))), (qc, .inr (0, [.ref qr, .int (nI ((f + 4) % 64)), .int (nI n)])), (qr, .inl (cI, 64, .inl (tkR ring f 4))), (qm, .inl (cV, 8, .inr (.inr (.inr (.inr (va_up mk n1 (some q65))))))), (q65, .inr (4, [.int (nI n1), .ref a80_0, .ref a80_1, .int 1, .int (tiF ring f 4), .int 0, .int 0, .int 0, .int 0, .int 0])), (a80_0, .inl (cI, 9, .inl (fun _ => 0))), (a80_1, .inl (cI, 9, .inl (fun _ => 0)))]) hw [1, 2, 3, 4, 5] rfl rfl (x_runV (n := 3) (rest := []) (As := [.int 1, .int (nI n1), .int 0]) S hw (k_write l D cI cZ cV qj j1 j2 j3 j4 ks ns ds ss c0 1 (nI n1) 0 hc _) xh_1_208 xh_1_205 xh_1_206 xh_1_207 xh_1_3 (by decide +kernel) ⟨by decide, by decide⟩ [1, 2, 3, 4, 5] rfl rfl (ci := 2) (q0 := 1) rfl rfl rfl hl.1 rfl (Nat.le_of_ble_eq_true rfl) dEV_rotate_122 ⟨by decide, by decide⟩) rfl rfl (fun H locs hw => ?_)
  refine lv_aload_n hx hb dEV_rotate_125 rfl (lv_at hl 1 rfl) ?_
  refine x_get S hw (C := REV) (T := TEV) (N := 8) inEV 0 rfl rfl 6 (by decide) xh_1_105 (v := .ref q65) rfl dEV_rotate_126 ?_
  refine x_getN S hw (C := RVE) (T := TVE) (N := 10) inVE 9 rfl rfl 0 (by decide) xh_1_168 (v := .int (nI n1)) rfl dEV_rotate_129 ?_
  exact x_iret S hr hlk hw (by decide) (by decide) (⟨rfl, q65, a80_0, a80_1, rfl⟩) dEV_rotate_132

set_option maxHeartbeats 4000000 in
set_option maxRecDepth 100000 in
theorem f_rot_some (l : Launch) (D : va_G) (cI cZ cV : ClassId) (h : Nat) (qc : Nat) (qj : Nat) (qe : Nat) (qs : Nat) (qm : Nat) (ctr : Int32) (n1 : Nat) (qr : Nat) (ring : Nat → Int32) (f : Nat) (n : Nat) (j1 : Nat) (j2 : Nat) (j3 : Nat) (j4 : Nat) (ks : Nat → Int32) (ns : Nat → Int32) (ds : Nat → Int32) (ss : Nat → Int32) (c0 : Nat) (mk : Nat → Option Nat) (v0 : Nat) (v1 : Nat) (v2 : Nat) (num : Int32) (stt : Int32) (sec : Int32) (lk : Int32) (th : Int32) (sc : Int32) (gset : Int32) (gc : Int32) (hn : n1 < 8) (hc : c0 < 80) (hf : f < 64) (hk : n ≤ 60) : XI l yEV_rotate cEV_rotate 2 (some .int) D (xT3 cI cZ cV) 2 3 28 [.ref h] [(h, .inr (5, [.ref qc, .ref qj, .ref qe, .ref qs, .ref qm, .int (nI n1), .ref v0, .int ctr])), (qj, .inr (2, [.ref j1, .ref j2, .ref j3, .ref j4, .int (nI c0)])), (j1, .inl (cI, 80, .inl ks)), (j2, .inl (cI, 80, .inl ns)), (j3, .inl (cI, 80, .inl ds)), (j4, .inl (cI, 80, .inl ss)), (qc, .inr (0, [.ref qr, .int (nI f), .int (nI (n + 4))])), (qr, .inl (cI, 64, .inl ring)), (qm, .inl (cV, 8, .inr (.inr (.inr (.inr mk))))), (v0, .inr (4, [.int num, .ref v1, .ref v2, .int stt, .int sec, .int lk, .int th, .int sc, .int gset, .int gc]))] (fun r u => r = nI n1 ∧ ∃ a0 a1 a2 : Nat, u = [(h, .inr (5, [.ref qc, .ref qj, .ref qe, .ref qs, .ref qm, .int (nI (n1 + 1)), .ref a0, .int ctr])), (qj, .inr (2, [.ref j1, .ref j2, .ref j3, .ref j4, .int (nI (c0 + 1))])), (j1, .inl (cI, 80, .inl (upd ks c0 (1)))), (j2, .inl (cI, 80, .inl (upd ns c0 (nI n1)))), (j3, .inl (cI, 80, .inl (upd ds c0 (1 + num)))), (j4, .inl (cI, 80, .inl (upd ss c0 (fMix (fMix (fMix (jBef ss c0) (1)) (nI n1)) (1 + num))))), (qc, .inr (0, [.ref qr, .int (nI ((f + 4) % 64)), .int (nI n)])), (qr, .inl (cI, 64, .inl (tkR ring f 4))), (qm, .inl (cV, 8, .inr (.inr (.inr (.inr (va_up mk n1 (some a0))))))), (v0, .inr (4, [.int num, .ref v1, .ref v2, .int 2, .int sec, .int lk, .int th, .int sc, .int gset, .int gc])), (a0, .inr (4, [.int (nI n1), .ref a1, .ref a2, .int 1, .int (tiF ring f 4), .int 0, .int 0, .int 0, .int 0, .int 0])), (a1, .inl (cI, 9, .inl (fun _ => 0))), (a2, .inl (cI, 9, .inl (fun _ => 0)))]) := by
  intro sz
  refine x_ofW (Qc := fun A => va_Qi _ (xB D A) A) sz (by decide) (Nat.le_of_ble_eq_true rfl) ?_
  intro p e s m args below meth c A ls S hr hlk hnm hw hl
  obtain ⟨hx, hb, hml, hown, hts⟩ := id S
  have hl : lv_has ls 2 [(0, .ref h)] := hl
  refine lv_aload_n hx hb dEV_rotate_0 rfl (lv_at hl 0 rfl) ?_
  refine x_get S hw (C := REV) (T := TEV) (N := 8) inEV 0 rfl rfl 5 (by decide) xh_1_104 (v := .int (nI n1)) rfl dEV_rotate_1 ?_
  refine lv_bipush (v := 8) hx hb dEV_rotate_4 (by decide) ?_
  refine lv_icmp_ge (tgt := 20) hx hb dEV_rotate_6 (by decide) (fun h6 => absurd h6 (nI_ge (b := 8) (by omega) (by decide))) (fun h6 => ?_)
  refine lv_aload_n hx hb dEV_rotate_9 rfl (lv_at hl 0 rfl) ?_
  refine x_get S hw (C := REV) (T := TEV) (N := 8) inEV 0 rfl rfl 1 (by decide) xh_1_100 (v := .ref qj) rfl dEV_rotate_10 ?_
  refine lv_iconst (v := 1) hx hb dEV_rotate_13 (by decide) ?_
  refine x_calliD (ws' := [(h, .inr (5, [.ref qc, .ref qj, .ref qe, .ref qs, .ref qm, .int (nI n1), .ref v0, .int ctr])), (qj, .inr (2, [.ref j1, .ref j2, .ref j3, .ref j4, .int (nI c0)])), (j1, .inl (cI, 80, .inl ks)), (j2, .inl (cI, 80, .inl ns)), (j3, .inl (cI, 80, .inl ds)), (j4, .inl (cI, 80, .inl ss)), (qc, .inr (0, [.ref qr, .int (nI f), .int (nI (n + 4))])), (qr, .inl (cI, 64, .inl ring)), (qm, .inl (cV, 8, .inr (.inr (.inr (.inr mk))))), (v0, .inr (4, [.int num, .ref v1, .ref v2, .int stt, .int sec, .int lk, .int th, .int sc, .int gset, .int gc]))]) hw [1, 2, 3, 4, 5] rfl rfl (x_runV (n := 1) (rest := []) (As := [.int 1]) S hw (k_room_y l D cI cZ cV qj j1 j2 j3 j4 ks ns ds ss c0 1 (by omega) _) xh_1_153 xh_1_150 xh_1_151 xh_1_152 xh_1_3 (by decide +kernel) ⟨by decide, by decide⟩ [1, 2, 3, 4, 5] rfl rfl (ci := 2) (q0 := 1) rfl rfl rfl hl.1 rfl (Nat.le_of_ble_eq_true rfl) dEV_rotate_14 ⟨by decide, by decide⟩) rfl rfl (fun H locs hw => ?_)
  refine lv_if_ne (tgt := 23) hx hb dEV_rotate_17 (by decide) (fun h17 => ?_) (fun h17 => absurd h17 (by decide))
  refine lv_aload_n hx hb dEV_rotate_23 rfl (lv_at hl 0 rfl) ?_
  refine x_get S hw (C := REV) (T := TEV) (N := 8) inEV 0 rfl rfl 0 (by decide) xh_1_99 (v := .ref qc) rfl dEV_rotate_24 ?_
  refine x_getN S hw (C := RCR) (T := TCR) (N := 3) inCR 6 rfl rfl 2 (by decide) xh_1_27 (v := .int (nI (n + 4))) rfl dEV_rotate_27 ?_
  refine lv_iconst (v := 4) hx hb dEV_rotate_30 (by decide) ?_
  refine lv_icmp_ge (tgt := 37) hx hb dEV_rotate_31 (by decide) (fun h31 => ?_) (fun h31 => absurd (nI_le (a := 4) (b := n + 4) (by omega) (by omega)) h31)
  refine lv_iconst (v := 0) hx hb dEV_rotate_37 (by decide) ?_
  refine lv_istore_n (lv' := [(1, .int 0), (0, .ref h)]) hx hb dEV_rotate_38 rfl hl (by decide) rfl (fun ls hl => ?_)
  refine lv_aload_n hx hb dEV_rotate_39 rfl (lv_at hl 1 rfl) ?_
  refine x_get S hw (C := REV) (T := TEV) (N := 8) inEV 0 rfl rfl 6 (by decide) xh_1_105 (v := .ref v0) rfl dEV_rotate_40 ?_
  refine lv_ifnull hx hb dEV_rotate_43 ?_
  refine lv_aload_n hx hb dEV_rotate_46 rfl (lv_at hl 1 rfl) ?_
  refine x_get S hw (C := REV) (T := TEV) (N := 8) inEV 0 rfl rfl 6 (by decide) xh_1_105 (v := .ref v0) rfl dEV_rotate_47 ?_
  refine lv_iconst (v := 2) hx hb dEV_rotate_50 (by decide) ?_
  refine x_putN S hw (C := RVE) (T := TVE) (N := 10) inVE tyVE tyVE_ok nmVE 9 rfl rfl 3 (by decide) xh_1_172 rfl (v := .int 2) rfl rfl (Nat.le_of_ble_eq_true rfl) (ws' := [(h, .inr (5, [.ref qc, .ref qj, .ref qe, .ref qs, .ref qm, .int (nI n1), .ref v0, .int ctr])), (qj, .inr (2, [.ref j1, .ref j2, .ref j3, .ref j4, .int (nI c0)])), (j1, .inl (cI, 80, .inl ks)), (j2, .inl (cI, 80, .inl ns)), (j3, .inl (cI, 80, .inl ds)), (j4, .inl (cI, 80, .inl ss)), (qc, .inr (0, [.ref qr, .int (nI f), .int (nI (n + 4))])), (qr, .inl (cI, 64, .inl ring)), (qm, .inl (cV, 8, .inr (.inr (.inr (.inr mk))))), (v0, .inr (4, [.int num, .ref v1, .ref v2, .int 2, .int sec, .int lk, .int th, .int sc, .int gset, .int gc]))]) rfl dEV_rotate_51 (fun H locs hw => ?_)
  refine lv_iconst (v := 1) hx hb dEV_rotate_54 (by decide) ?_
  refine lv_aload_n hx hb dEV_rotate_55 rfl (lv_at hl 1 rfl) ?_
  refine x_get S hw (C := REV) (T := TEV) (N := 8) inEV 0 rfl rfl 6 (by decide) xh_1_105 (v := .ref v0) rfl dEV_rotate_56 ?_
  refine x_getN S hw (C := RVE) (T := TVE) (N := 10) inVE 9 rfl rfl 0 (by decide) xh_1_168 (v := .int num) rfl dEV_rotate_59 ?_
  refine lv_iadd hx hb dEV_rotate_62 ?_
  refine lv_istore_n (lv' := [(1, .int (1 + num)), (0, .ref h)]) hx hb dEV_rotate_63 rfl hl (by decide) rfl (fun ls hl => ?_)
  refine lv_aload_n hx hb dEV_rotate_64 rfl (lv_at hl 1 rfl) ?_
  refine x_new S hw (C := RVE) (T := TVE) (N := 10) (ci := 4) inVE tyVE tyVE_ok rfl xh_1_97 xh_1_154 xh_1_8 (fs := [.int 0, .null, .null, .int 0, .int 0, .int 0, .int 0, .int 0, .int 0, .int 0]) (by decide +kernel) (by decide) (by decide) (ws' := fun q65 => [(h, .inr (5, [.ref qc, .ref qj, .ref qe, .ref qs, .ref qm, .int (nI n1), .ref v0, .int ctr])), (qj, .inr (2, [.ref j1, .ref j2, .ref j3, .ref j4, .int (nI c0)])), (j1, .inl (cI, 80, .inl ks)), (j2, .inl (cI, 80, .inl ns)), (j3, .inl (cI, 80, .inl ds)), (j4, .inl (cI, 80, .inl ss)), (qc, .inr (0, [.ref qr, .int (nI f), .int (nI (n + 4))])), (qr, .inl (cI, 64, .inl ring)), (qm, .inl (cV, 8, .inr (.inr (.inr (.inr mk))))), (v0, .inr (4, [.int num, .ref v1, .ref v2, .int 2, .int sec, .int lk, .int th, .int sc, .int gset, .int gc])), (q65, .inr (4, [.int 0, .null, .null, .int 0, .int 0, .int 0, .int 0, .int 0, .int 0, .int 0]))]) (fun _ => rfl) dEV_rotate_65 (fun q65 H hw => ?_)
  refine lv_dup hx hb dEV_rotate_68 rfl ?_
  refine lv_aload_n hx hb dEV_rotate_69 rfl (lv_at hl 1 rfl) ?_
  refine x_get S hw (C := REV) (T := TEV) (N := 8) inEV 0 rfl rfl 5 (by decide) xh_1_104 (v := .int (nI n1)) rfl dEV_rotate_70 ?_
  refine lv_aload_n hx hb dEV_rotate_73 rfl (lv_at hl 1 rfl) ?_
  refine x_get S hw (C := REV) (T := TEV) (N := 8) inEV 0 rfl rfl 0 (by decide) xh_1_99 (v := .ref qc) rfl dEV_rotate_74 ?_
  refine x_calliD (ws' := [(h, .inr (5, [.ref qc, .ref qj, .ref qe, .ref qs, .ref qm, .int (nI n1), .ref v0, .int ctr])), (qj, .inr (2, [.ref j1, .ref j2, .ref j3, .ref j4, .int (nI c0)])), (j1, .inl (cI, 80, .inl ks)), (j2, .inl (cI, 80, .inl ns)), (j3, .inl (cI, 80, .inl ds)), (j4, .inl (cI, 80, .inl ss)), (qc, .inr (0, [.ref qr, .int (nI ((f + 4) % 64)), .int (nI n)])), (qr, .inl (cI, 64, .inl (tkR ring f 4))), (qm, .inl (cV, 8, .inr (.inr (.inr (.inr mk))))), (v0, .inr (4, [.int num, .ref v1, .ref v2, .int 2, .int sec, .int lk, .int th, .int sc, .int gset, .int gc])), (q65, .inr (4, [.int 0, .null, .null, .int 0, .int 0, .int 0, .int 0, .int 0, .int 0, .int 0]))]) hw [6, 7] rfl rfl (x_runV (n := 0) (rest := [.int (nI n1), .ref q65, .ref q65, .ref h]) (As := []) S hw (k_takeInt l D cI cZ cV qc qr ring f n hf _) xh_1_158 xh_1_155 xh_1_156 xh_1_157 xh_1_2 (by decide +kernel) ⟨by decide, by decide⟩ [6, 7] rfl rfl (ci := 0) (q0 := 6) rfl rfl rfl hl.1 rfl (Nat.le_of_ble_eq_true rfl) dEV_rotate_77 ⟨by decide, by decide⟩) rfl rfl (fun H locs hw => ?_)
  refine x_callv hw [10] rfl rfl (x_runI (n := 2) (rest := [.ref q65, .ref h]) (As := [.int (nI n1), .int (tiF ring f 4)]) S hw (i_VE l D cI cZ cV q65 (nI n1) (tiF ring f 4) _) xh_1_165 xh_1_163 xh_1_164 xh_1_8 rfl (by decide +kernel) ⟨by decide, by decide⟩ [10] rfl rfl rfl hl.1 rfl (Nat.le_of_ble_eq_true rfl) dEV_rotate_80 ⟨by decide, by decide⟩) (fun u H locs hp hx9 => ?_)
  obtain ⟨a80_0, a80_1, rfl⟩ := hp
  have hw : xW D (xT3 cI cZ cV) A s.heap H locs [(h, .inr (5, [.ref qc, .ref qj, .ref qe, .ref qs, .ref qm, .int (nI n1), .ref v0, .int ctr])), (qj, .inr (2, [.ref j1, .ref j2, .ref j3, .ref j4, .int (nI c0)])), (j1, .inl (cI, 80, .inl ks)), (j2, .inl (cI, 80, .inl ns)), (j3, .inl (cI, 80, .inl ds)), (j4, .inl (cI, 80, .inl ss)), (qc, .inr (0, [.ref qr, .int (nI ((f + 4) % 64)), .int (nI n)])), (qr, .inl (cI, 64, .inl (tkR ring f 4))), (qm, .inl (cV, 8, .inr (.inr (.inr (.inr mk))))), (v0, .inr (4, [.int num, .ref v1, .ref v2, .int 2, .int sec, .int lk, .int th, .int sc, .int gset, .int gc])), (q65, .inr (4, [.int (nI n1), .ref a80_0, .ref a80_1, .int 1, .int (tiF ring f 4), .int 0, .int 0, .int 0, .int 0, .int 0])), (a80_0, .inl (cI, 9, .inl (fun _ => 0))), (a80_1, .inl (cI, 9, .inl (fun _ => 0)))] s := hx9 [(q65, .inr (4, [.int (nI n1), .ref a80_0, .ref a80_1, .int 1, .int (tiF ring f 4), .int 0, .int 0, .int 0, .int 0, .int 0]))] [(a80_0, .inl (cI, 9, .inl (fun _ => 0))), (a80_1, .inl (cI, 9, .inl (fun _ => 0)))] rfl rfl
  refine x_put S hw (C := REV) (T := TEV) (N := 8) inEV tyEV tyEV_ok nmEV 0 rfl rfl 6 (by decide) xh_1_105 rfl (v := .ref q65) rfl rfl (Nat.le_of_ble_eq_true rfl) (ws' := [(h, .inr (5, [.ref qc, .ref qj, .ref qe, .ref qs, .ref qm, .int (nI n1), .ref q65, .int ctr])), (qj, .inr (2, [.ref j1, .ref j2, .ref j3, .ref j4, .int (nI c0)])), (j1, .inl (cI, 80, .inl ks)), (j2, .inl (cI, 80, .inl ns)), (j3, .inl (cI, 80, .inl ds)), (j4, .inl (cI, 80, .inl ss)), (qc, .inr (0, [.ref qr, .int (nI ((f + 4) % 64)), .int (nI n)])), (qr, .inl (cI, 64, .inl (tkR ring f 4))), (qm, .inl (cV, 8, .inr (.inr (.inr (.inr mk))))), (v0, .inr (4, [.int num, .ref v1, .ref v2, .int 2, .int sec, .int lk, .int th, .int sc, .int gset, .int gc])), (q65, .inr (4, [.int (nI n1), .ref a80_0, .ref a80_1, .int 1, .int (tiF ring f 4), .int 0, .int 0, .int 0, .int 0, .int 0])), (a80_0, .inl (cI, 9, .inl (fun _ => 0))), (a80_1, .inl (cI, 9, .inl (fun _ => 0)))]) rfl dEV_rotate_83 (fun H locs hw => ?_)
  refine lv_aload_n hx hb dEV_rotate_86 rfl (lv_at hl 1 rfl) ?_
  refine x_get S hw (C := REV) (T := TEV) (N := 8) inEV 0 rfl rfl 4 (by decide) xh_1_103 (v := .ref qm) rfl dEV_rotate_87 ?_
  refine lv_aload_n hx hb dEV_rotate_90 rfl (lv_at hl 1 rfl) ?_
  refine x_get S hw (C := REV) (T := TEV) (N := 8) inEV 0 rfl rfl 5 (by decide) xh_1_104 (v := .int (nI n1)) rfl dEV_rotate_91 ?_
  refine lv_aload_n hx hb dEV_rotate_94 rfl (lv_at hl 1 rfl) ?_
  refine x_get S hw (C := REV) (T := TEV) (N := 8) inEV 0 rfl rfl 6 (by decide) xh_1_105 (v := .ref q65) rfl dEV_rotate_95 ?_
  refine x_aast S hw 8 2 10 4 rfl rfl rfl rfl (j := n1) (vp_in_nI (by omega) (by omega)) (nI_clamp (by omega)) (ws' := [(h, .inr (5, [.ref qc, .ref qj, .ref qe, .ref qs, .ref qm, .int (nI n1), .ref q65, .int ctr])), (qj, .inr (2, [.ref j1, .ref j2, .ref j3, .ref j4, .int (nI c0)])), (j1, .inl (cI, 80, .inl ks)), (j2, .inl (cI, 80, .inl ns)), (j3, .inl (cI, 80, .inl ds)), (j4, .inl (cI, 80, .inl ss)), (qc, .inr (0, [.ref qr, .int (nI ((f + 4) % 64)), .int (nI n)])), (qr, .inl (cI, 64, .inl (tkR ring f 4))), (qm, .inl (cV, 8, .inr (.inr (.inr (.inr (va_up mk n1 (some q65))))))), (v0, .inr (4, [.int num, .ref v1, .ref v2, .int 2, .int sec, .int lk, .int th, .int sc, .int gset, .int gc])), (q65, .inr (4, [.int (nI n1), .ref a80_0, .ref a80_1, .int 1, .int (tiF ring f 4), .int 0, .int 0, .int 0, .int 0, .int 0])), (a80_0, .inl (cI, 9, .inl (fun _ => 0))), (a80_1, .inl (cI, 9, .inl (fun _ => 0)))]) rfl dEV_rotate_98 (fun H locs hw => ?_)
  refine lv_aload_n hx hb dEV_rotate_99 rfl (lv_at hl 1 rfl) ?_
  refine lv_dup hx hb dEV_rotate_100 rfl ?_
  refine x_get S hw (C := REV) (T := TEV) (N := 8) inEV 0 rfl rfl 5 (by decide) xh_1_104 (v := .int (nI n1)) rfl dEV_rotate_101 ?_
  refine lv_iconst (v := 1) hx hb dEV_rotate_104 (by decide) ?_
  refine lv_iadd hx hb dEV_rotate_105 ?_
  refine x_topi (y := nI (n1 + 1)) ((nI_succ _).symm) ?_
  refine x_put S hw (C := REV) (T := TEV) (N := 8) inEV tyEV tyEV_ok nmEV 0 rfl rfl 5 (by decide) xh_1_104 rfl (v := .int (nI (n1 + 1))) rfl rfl (Nat.le_of_ble_eq_true rfl) (ws' := [(h, .inr (5, [.ref qc, .ref qj, .ref qe, .ref qs, .ref qm, .int (nI (n1 + 1)), .ref q65, .int ctr])), (qj, .inr (2, [.ref j1, .ref j2, .ref j3, .ref j4, .int (nI c0)])), (j1, .inl (cI, 80, .inl ks)), (j2, .inl (cI, 80, .inl ns)), (j3, .inl (cI, 80, .inl ds)), (j4, .inl (cI, 80, .inl ss)), (qc, .inr (0, [.ref qr, .int (nI ((f + 4) % 64)), .int (nI n)])), (qr, .inl (cI, 64, .inl (tkR ring f 4))), (qm, .inl (cV, 8, .inr (.inr (.inr (.inr (va_up mk n1 (some q65))))))), (v0, .inr (4, [.int num, .ref v1, .ref v2, .int 2, .int sec, .int lk, .int th, .int sc, .int gset, .int gc])), (q65, .inr (4, [.int (nI n1), .ref a80_0, .ref a80_1, .int 1, .int (tiF ring f 4), .int 0, .int 0, .int 0, .int 0, .int 0])), (a80_0, .inl (cI, 9, .inl (fun _ => 0))), (a80_1, .inl (cI, 9, .inl (fun _ => 0)))]) rfl dEV_rotate_106 (fun H locs hw => ?_)
  refine lv_aload_n hx hb dEV_rotate_109 rfl (lv_at hl 1 rfl) ?_
  refine x_get S hw (C := REV) (T := TEV) (N := 8) inEV 0 rfl rfl 1 (by decide) xh_1_100 (v := .ref qj) rfl dEV_rotate_110 ?_
  refine lv_iconst (v := 1) hx hb dEV_rotate_113 (by decide) ?_
  refine lv_aload_n hx hb dEV_rotate_114 rfl (lv_at hl 1 rfl) ?_
  refine x_get S hw (C := REV) (T := TEV) (N := 8) inEV 0 rfl rfl 6 (by decide) xh_1_105 (v := .ref q65) rfl dEV_rotate_115 ?_
  refine x_getN S hw (C := RVE) (T := TVE) (N := 10) inVE 10 rfl rfl 0 (by decide) xh_1_168 (v := .int (nI n1)) rfl dEV_rotate_118 ?_
  refine lv_iload_n hx hb dEV_rotate_121 rfl (lv_at hl 0 rfl) ?_
  refine x_callvD (ws' := [(h, .inr (5, [.ref qc, .ref qj, .ref qe, .ref qs, .ref qm, .int (nI (n1 + 1)), .ref q65, .int ctr])), (qj, .inr (2, [.ref j1, .ref j2, .ref j3, .ref j4, .int (nI (c0 + 1))])), (j1, .inl (cI, 80, .inl (upd ks c0 1))), (j2, .inl (cI, 80, .inl (upd ns c0 (nI n1)))), (j3, .inl (cI, 80, .inl (upd ds c0 (1 + num)))), (j4, .inl (cI, 80, .inl (upd ss c0 (fMix (fMix (fMix (jBef ss c0) 1) (nI n1)) (1 + num))))), (qc, .inr (0, [.ref qr, .int (nI ((f + 4) % 64)), .int (nI n)])), (qr, .inl (cI, 64, .inl (tkR ring f 4))), (qm, .inl (cV, 8, .inr (.inr (.inr (.inr (va_up mk n1 (some q65))))))), (v0, .inr (4, [.int num, .ref v1, .ref v2, .int 2, .int sec, .int lk, .int th, .int sc, .int gset, .int gc])), (q65, .inr (4, [.int (nI n1), .ref a80_0, .ref a80_1, .int 1, .int (tiF ring f 4), .int 0, .int 0, .int 0, .int 0, .int 0])), (a80_0, .inl (cI, 9, .inl (fun _ => 0))), (a80_1, .inl (cI, 9, .inl (fun _ => 0)))]) hw [1, 2, 3, 4, 5] rfl rfl (x_runV (n := 3) (rest := []) (As := [.int 1, .int (nI n1), .int (1 + num)]) S hw (k_write l D cI cZ cV qj j1 j2 j3 j4 ks ns ds ss c0 1 (nI n1) (1 + num) hc _) xh_1_208 xh_1_205 xh_1_206 xh_1_207 xh_1_3 (by decide +kernel) ⟨by decide, by decide⟩ [1, 2, 3, 4, 5] rfl rfl (ci := 2) (q0 := 1) rfl rfl rfl hl.1 rfl (Nat.le_of_ble_eq_true rfl) dEV_rotate_122 ⟨by decide, by decide⟩) rfl rfl (fun H locs hw => ?_)
  refine lv_aload_n hx hb dEV_rotate_125 rfl (lv_at hl 1 rfl) ?_
  refine x_get S hw (C := REV) (T := TEV) (N := 8) inEV 0 rfl rfl 6 (by decide) xh_1_105 (v := .ref q65) rfl dEV_rotate_126 ?_
  refine x_getN S hw (C := RVE) (T := TVE) (N := 10) inVE 10 rfl rfl 0 (by decide) xh_1_168 (v := .int (nI n1)) rfl dEV_rotate_129 ?_
  exact x_iret S hr hlk hw (by decide) (by decide) (⟨rfl, q65, a80_0, a80_1, rfl⟩) dEV_rotate_132
