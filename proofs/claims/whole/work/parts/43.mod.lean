set_option maxHeartbeats 4000000 in
set_option maxRecDepth 100000 in
theorem m_coin_bad (l : Launch) (D : va_G) (cI cZ cV : ClassId) (g : Nat) (mP : Nat) (mS : Nat) (mK : Nat) (mL : Nat) (mT : Nat) (mZ : Nat) (mD : Nat) (mH : Nat) (mG : Nat) (mC : Nat) (m1 : Nat) (m2 : Nat) (m3 : Nat) (m4 : Nat) (mB : Nat) (mX : Nat) (mY : Nat) (cash : Int32) (cnt : Int32) (cuts : Int32) (lin : Int32) (siz : Int32) (ctr : Int32) (b : Int32) (hby : fIsB b = 0) : XI l yMO_coin cMO_coin 2 (some .boolean) D (xT3 cI cZ cV) 0 0 0 [.ref g, .int b] [(g, .inr (6, [.ref mP, .int cash, .int cnt, .ref mS, .ref mK, .ref mL, .ref mT, .ref mZ, .ref mD, .ref mH, .ref mG, .ref mC, .int cuts, .int lin, .ref m1, .ref m2, .ref m3, .ref m4, .ref mB, .int siz, .int ctr, .ref mX, .ref mY]))] (fun r u => r = 0 ∧ u = [(g, .inr (6, [.ref mP, .int cash, .int cnt, .ref mS, .ref mK, .ref mL, .ref mT, .ref mZ, .ref mD, .ref mH, .ref mG, .ref mC, .int cuts, .int lin, .ref m1, .ref m2, .ref m3, .ref m4, .ref mB, .int siz, .int ctr, .ref mX, .ref mY]))]) := by
  intro sz
  refine x_ofW (Qc := fun A => va_Qi _ (xB D A) A) sz (by decide) (Nat.le_of_ble_eq_true rfl) ?_
  intro p e s m args below meth c A ls S hr hlk hnm hw hl
  obtain ⟨hx, hb, hml, hown, hts⟩ := id S
  have hl : lv_has ls 2 [(0, .ref g), (1, .int b)] := hl
  refine lv_iload_n hx hb dMO_coin_0 rfl (lv_at hl 1 rfl) ?_
  refine lv_if_lt (tgt := 20) hx hb dMO_coin_1 (by decide) (fun h1 => ?_) (fun h1 => ?_)
  · skip
    refine lv_iconst (v := 0) hx hb dMO_coin_20 (by decide) ?_
    exact x_zret S hr hlk hw (by decide) (by decide) rfl (⟨rfl, rfl⟩) dMO_coin_21
  refine lv_iload_n hx hb dMO_coin_4 rfl (lv_at hl 1 rfl) ?_
  refine lv_sipush (v := 255) hx hb dMO_coin_5 (by decide) ?_
  refine lv_icmp_gt (tgt := 20) hx hb dMO_coin_8 (by decide) (fun h8 => ?_) (fun h8 => ?_)
  · skip
    refine lv_iconst (v := 0) hx hb dMO_coin_20 (by decide) ?_
    exact x_zret S hr hlk hw (by decide) (by decide) rfl (⟨rfl, rfl⟩) dMO_coin_21
  exact False.elim (by rcases isB_no hby with h | h; exact h1 h; exact h8 h)

set_option maxHeartbeats 4000000 in
set_option maxRecDepth 100000 in
theorem m_coin_full (l : Launch) (D : va_G) (cI cZ cV : ClassId) (g : Nat) (mP : Nat) (mS : Nat) (mK : Nat) (mL : Nat) (mT : Nat) (mZ : Nat) (mD : Nat) (mH : Nat) (mG : Nat) (mC : Nat) (m1 : Nat) (m2 : Nat) (m3 : Nat) (m4 : Nat) (mB : Nat) (mX : Nat) (mY : Nat) (cnt : Int32) (cuts : Int32) (lin : Int32) (siz : Int32) (ctr : Int32) (n : Nat) (b : Int32) (hby : ¬ fIsB b = 0) (hn : n = 64) : XI l yMO_coin cMO_coin 2 (some .boolean) D (xT3 cI cZ cV) 0 0 0 [.ref g, .int b] [(g, .inr (6, [.ref mP, .int (nI n), .int cnt, .ref mS, .ref mK, .ref mL, .ref mT, .ref mZ, .ref mD, .ref mH, .ref mG, .ref mC, .int cuts, .int lin, .ref m1, .ref m2, .ref m3, .ref m4, .ref mB, .int siz, .int ctr, .ref mX, .ref mY]))] (fun r u => r = 0 ∧ u = [(g, .inr (6, [.ref mP, .int (nI n), .int cnt, .ref mS, .ref mK, .ref mL, .ref mT, .ref mZ, .ref mD, .ref mH, .ref mG, .ref mC, .int cuts, .int lin, .ref m1, .ref m2, .ref m3, .ref m4, .ref mB, .int siz, .int ctr, .ref mX, .ref mY]))]) := by
  intro sz
  refine x_ofW (Qc := fun A => va_Qi _ (xB D A) A) sz (by decide) (Nat.le_of_ble_eq_true rfl) ?_
  intro p e s m args below meth c A ls S hr hlk hnm hw hl
  obtain ⟨hx, hb, hml, hown, hts⟩ := id S
  have hl : lv_has ls 2 [(0, .ref g), (1, .int b)] := hl
  refine lv_iload_n hx hb dMO_coin_0 rfl (lv_at hl 1 rfl) ?_
  refine lv_if_lt (tgt := 20) hx hb dMO_coin_1 (by decide) (fun h1 => absurd h1 (isB_of hby).1) (fun h1 => ?_)
  refine lv_iload_n hx hb dMO_coin_4 rfl (lv_at hl 1 rfl) ?_
  refine lv_sipush (v := 255) hx hb dMO_coin_5 (by decide) ?_
  refine lv_icmp_gt (tgt := 20) hx hb dMO_coin_8 (by decide) (fun h8 => absurd h8 (isB_of hby).2) (fun h8 => ?_)
  refine lv_aload_n hx hb dMO_coin_11 rfl (lv_at hl 0 rfl) ?_
  refine x_get S hw (C := RMO) (T := TMO) (N := 23) inMO 0 rfl rfl 1 (by decide) xh_2_146 (v := .int (nI n)) rfl dMO_coin_12 ?_
  refine lv_bipush (v := 64) hx hb dMO_coin_15 (by decide) ?_
  refine lv_icmp_ne (tgt := 22) hx hb dMO_coin_17 (by decide) (fun h17 => absurd (by rw [hn]; rfl) h17) (fun h17 => ?_)
  refine lv_iconst (v := 0) hx hb dMO_coin_20 (by decide) ?_
  exact x_zret S hr hlk hw (by decide) (by decide) rfl (⟨rfl, rfl⟩) dMO_coin_21

set_option maxHeartbeats 4000000 in
set_option maxRecDepth 100000 in
theorem m_coin_ok (l : Launch) (D : va_G) (cI cZ cV : ClassId) (g : Nat) (mP : Nat) (mS : Nat) (mK : Nat) (mL : Nat) (mT : Nat) (mZ : Nat) (mD : Nat) (mH : Nat) (mG : Nat) (mC : Nat) (m1 : Nat) (m2 : Nat) (m3 : Nat) (m4 : Nat) (mB : Nat) (mX : Nat) (mY : Nat) (cnt : Int32) (cuts : Int32) (lin : Int32) (siz : Int32) (ctr : Int32) (pu : Nat → Int32) (n : Nat) (b : Int32) (hby : ¬ fIsB b = 0) (hn : n < 64) : XI l yMO_coin cMO_coin 2 (some .boolean) D (xT3 cI cZ cV) 0 0 0 [.ref g, .int b] [(g, .inr (6, [.ref mP, .int (nI n), .int cnt, .ref mS, .ref mK, .ref mL, .ref mT, .ref mZ, .ref mD, .ref mH, .ref mG, .ref mC, .int cuts, .int lin, .ref m1, .ref m2, .ref m3, .ref m4, .ref mB, .int siz, .int ctr, .ref mX, .ref mY])), (mP, .inl (cI, 64, .inl pu))] (fun r u => r = 1 ∧ u = [(g, .inr (6, [.ref mP, .int (nI (n + 1)), .int cnt, .ref mS, .ref mK, .ref mL, .ref mT, .ref mZ, .ref mD, .ref mH, .ref mG, .ref mC, .int cuts, .int lin, .ref m1, .ref m2, .ref m3, .ref m4, .ref mB, .int siz, .int ctr, .ref mX, .ref mY])), (mP, .inl (cI, 64, .inl (upd pu n b)))]) := by
  intro sz
  refine x_ofW (Qc := fun A => va_Qi _ (xB D A) A) sz (by decide) (Nat.le_of_ble_eq_true rfl) ?_
  intro p e s m args below meth c A ls S hr hlk hnm hw hl
  obtain ⟨hx, hb, hml, hown, hts⟩ := id S
  have hl : lv_has ls 2 [(0, .ref g), (1, .int b)] := hl
  refine lv_iload_n hx hb dMO_coin_0 rfl (lv_at hl 1 rfl) ?_
  refine lv_if_lt (tgt := 20) hx hb dMO_coin_1 (by decide) (fun h1 => absurd h1 (isB_of hby).1) (fun h1 => ?_)
  refine lv_iload_n hx hb dMO_coin_4 rfl (lv_at hl 1 rfl) ?_
  refine lv_sipush (v := 255) hx hb dMO_coin_5 (by decide) ?_
  refine lv_icmp_gt (tgt := 20) hx hb dMO_coin_8 (by decide) (fun h8 => absurd h8 (isB_of hby).2) (fun h8 => ?_)
  refine lv_aload_n hx hb dMO_coin_11 rfl (lv_at hl 0 rfl) ?_
  refine x_get S hw (C := RMO) (T := TMO) (N := 23) inMO 0 rfl rfl 1 (by decide) xh_2_146 (v := .int (nI n)) rfl dMO_coin_12 ?_
  refine lv_bipush (v := 64) hx hb dMO_coin_15 (by decide) ?_
  refine lv_icmp_ne (tgt := 22) hx hb dMO_coin_17 (by decide) (fun h17 => ?_) (fun h17 => absurd h17 (fun e => by have := (nI_eq (a := n) (b := 64) (by omega) (by decide)).mp e; omega))
  refine lv_aload_n hx hb dMO_coin_22 rfl (lv_at hl 0 rfl) ?_
  refine x_get S hw (C := RMO) (T := TMO) (N := 23) inMO 0 rfl rfl 0 (by decide) xh_2_145 (v := .ref mP) rfl dMO_coin_23 ?_
  refine lv_aload_n hx hb dMO_coin_26 rfl (lv_at hl 0 rfl) ?_
  refine x_get S hw (C := RMO) (T := TMO) (N := 23) inMO 0 rfl rfl 1 (by decide) xh_2_146 (v := .int (nI n)) rfl dMO_coin_27 ?_
  refine lv_iload_n hx hb dMO_coin_30 rfl (lv_at hl 1 rfl) ?_
  refine x_iast S hw 1 0 rfl rfl (j := n) (vp_in_nI (by omega) (by omega)) (nI_clamp (by omega)) (ws' := [(g, .inr (6, [.ref mP, .int (nI n), .int cnt, .ref mS, .ref mK, .ref mL, .ref mT, .ref mZ, .ref mD, .ref mH, .ref mG, .ref mC, .int cuts, .int lin, .ref m1, .ref m2, .ref m3, .ref m4, .ref mB, .int siz, .int ctr, .ref mX, .ref mY])), (mP, .inl (cI, 64, .inl (upd pu n b)))]) rfl dMO_coin_31 (fun H locs hw => ?_)
  refine lv_aload_n hx hb dMO_coin_32 rfl (lv_at hl 0 rfl) ?_
  refine lv_dup hx hb dMO_coin_33 rfl ?_
  refine x_get S hw (C := RMO) (T := TMO) (N := 23) inMO 0 rfl rfl 1 (by decide) xh_2_146 (v := .int (nI n)) rfl dMO_coin_34 ?_
  refine lv_iconst (v := 1) hx hb dMO_coin_37 (by decide) ?_
  refine lv_iadd hx hb dMO_coin_38 ?_
  refine x_topi (y := nI (n + 1)) ((nI_succ _).symm) ?_
  refine x_put S hw (C := RMO) (T := TMO) (N := 23) inMO tyMO tyMO_ok nmMO 0 rfl rfl 1 (by decide) xh_2_146 rfl (v := .int (nI (n + 1))) rfl rfl (Nat.le_of_ble_eq_true rfl) (ws' := [(g, .inr (6, [.ref mP, .int (nI (n + 1)), .int cnt, .ref mS, .ref mK, .ref mL, .ref mT, .ref mZ, .ref mD, .ref mH, .ref mG, .ref mC, .int cuts, .int lin, .ref m1, .ref m2, .ref m3, .ref m4, .ref mB, .int siz, .int ctr, .ref mX, .ref mY])), (mP, .inl (cI, 64, .inl (upd pu n b)))]) rfl dMO_coin_39 (fun H locs hw => ?_)
  refine lv_iconst (v := 1) hx hb dMO_coin_42 (by decide) ?_
  exact x_zret S hr hlk hw (by decide) (by decide) rfl (⟨rfl, rfl⟩) dMO_coin_43

set_option maxHeartbeats 4000000 in
set_option maxRecDepth 100000 in
theorem m_coins (l : Launch) (D : va_G) (cI cZ cV : ClassId) (g : Nat) (mP : Nat) (mS : Nat) (mK : Nat) (mL : Nat) (mT : Nat) (mZ : Nat) (mD : Nat) (mH : Nat) (mG : Nat) (mC : Nat) (m1 : Nat) (m2 : Nat) (m3 : Nat) (m4 : Nat) (mB : Nat) (mX : Nat) (mY : Nat) (cash : Int32) (cnt : Int32) (cuts : Int32) (lin : Int32) (siz : Int32) (ctr : Int32) : XI l yMO_coins cMO_coins 1 (some .int) D (xT3 cI cZ cV) 0 0 0 [.ref g] [(g, .inr (6, [.ref mP, .int cash, .int cnt, .ref mS, .ref mK, .ref mL, .ref mT, .ref mZ, .ref mD, .ref mH, .ref mG, .ref mC, .int cuts, .int lin, .ref m1, .ref m2, .ref m3, .ref m4, .ref mB, .int siz, .int ctr, .ref mX, .ref mY]))] (fun r u => r = cash ∧ u = [(g, .inr (6, [.ref mP, .int cash, .int cnt, .ref mS, .ref mK, .ref mL, .ref mT, .ref mZ, .ref mD, .ref mH, .ref mG, .ref mC, .int cuts, .int lin, .ref m1, .ref m2, .ref m3, .ref m4, .ref mB, .int siz, .int ctr, .ref mX, .ref mY]))]) := by
  intro sz
  refine x_ofW (Qc := fun A => va_Qi _ (xB D A) A) sz (by decide) (Nat.le_of_ble_eq_true rfl) ?_
  intro p e s m args below meth c A ls S hr hlk hnm hw hl
  obtain ⟨hx, hb, hml, hown, hts⟩ := id S
  have hl : lv_has ls 1 [(0, .ref g)] := hl
  refine lv_aload_n hx hb dMO_coins_0 rfl (lv_at hl 0 rfl) ?_
  refine x_get S hw (C := RMO) (T := TMO) (N := 23) inMO 0 rfl rfl 1 (by decide) xh_2_146 (v := .int cash) rfl dMO_coins_1 ?_
  exact x_iret S hr hlk hw (by decide) (by decide) (⟨rfl, rfl⟩) dMO_coins_4

set_option maxHeartbeats 4000000 in
set_option maxRecDepth 100000 in
theorem m_times_a (l : Launch) (D : va_G) (cI cZ cV : ClassId) (g : Nat) (a : Int32) (b : Int32) (ha : fIsB a = 0) : XI l yMO_times cMO_times 3 (some .int) D (xT3 cI cZ cV) 1 0 0 [.ref g, .int a, .int b] [] (fun r u => r = -1 ∧ u = []) := by
  intro sz
  refine x_ofW (Qc := fun A => va_Qi _ (xB D A) A) sz (by decide) (Nat.le_of_ble_eq_true rfl) ?_
  intro p e s m args below meth c A ls S hr hlk hnm hw hl
  obtain ⟨hx, hb, hml, hown, hts⟩ := id S
  have hl : lv_has ls 3 [(0, .ref g), (1, .int a), (2, .int b)] := hl
  refine lv_iload_n hx hb dMO_times_0 rfl (lv_at hl 1 rfl) ?_
  refine lv_if_lt (tgt := 22) hx hb dMO_times_1 (by decide) (fun h1 => ?_) (fun h1 => ?_)
  · skip
    refine lv_iconst (v := (-1)) hx hb dMO_times_22 (by decide) ?_
    refine lv_goto (tgt := 31) hx hb dMO_times_23 (by decide) ?_
    exact x_iret S hr hlk hw (by decide) (by decide) (⟨rfl, rfl⟩) dMO_times_31
  refine lv_iload_n hx hb dMO_times_4 rfl (lv_at hl 1 rfl) ?_
  refine lv_sipush (v := 255) hx hb dMO_times_5 (by decide) ?_
  refine lv_icmp_gt (tgt := 22) hx hb dMO_times_8 (by decide) (fun h8 => ?_) (fun h8 => ?_)
  · skip
    refine lv_iconst (v := (-1)) hx hb dMO_times_22 (by decide) ?_
    refine lv_goto (tgt := 31) hx hb dMO_times_23 (by decide) ?_
    exact x_iret S hr hlk hw (by decide) (by decide) (⟨rfl, rfl⟩) dMO_times_31
  exact False.elim (by rcases isB_no ha with h | h; exact h1 h; exact h8 h)

set_option maxHeartbeats 4000000 in
set_option maxRecDepth 100000 in
theorem m_times_b (l : Launch) (D : va_G) (cI cZ cV : ClassId) (g : Nat) (a : Int32) (b : Int32) (ha : ¬ fIsB a = 0) (hby : fIsB b = 0) : XI l yMO_times cMO_times 3 (some .int) D (xT3 cI cZ cV) 1 0 0 [.ref g, .int a, .int b] [] (fun r u => r = -1 ∧ u = []) := by
  intro sz
  refine x_ofW (Qc := fun A => va_Qi _ (xB D A) A) sz (by decide) (Nat.le_of_ble_eq_true rfl) ?_
  intro p e s m args below meth c A ls S hr hlk hnm hw hl
  obtain ⟨hx, hb, hml, hown, hts⟩ := id S
  have hl : lv_has ls 3 [(0, .ref g), (1, .int a), (2, .int b)] := hl
  refine lv_iload_n hx hb dMO_times_0 rfl (lv_at hl 1 rfl) ?_
  refine lv_if_lt (tgt := 22) hx hb dMO_times_1 (by decide) (fun h1 => absurd h1 (isB_of ha).1) (fun h1 => ?_)
  refine lv_iload_n hx hb dMO_times_4 rfl (lv_at hl 1 rfl) ?_
  refine lv_sipush (v := 255) hx hb dMO_times_5 (by decide) ?_
  refine lv_icmp_gt (tgt := 22) hx hb dMO_times_8 (by decide) (fun h8 => absurd h8 (isB_of ha).2) (fun h8 => ?_)
  refine lv_iload_n hx hb dMO_times_11 rfl (lv_at hl 2 rfl) ?_
  refine lv_if_lt (tgt := 22) hx hb dMO_times_12 (by decide) (fun h12 => ?_) (fun h12 => ?_)
  · skip
    refine lv_iconst (v := (-1)) hx hb dMO_times_22 (by decide) ?_
    refine lv_goto (tgt := 31) hx hb dMO_times_23 (by decide) ?_
    exact x_iret S hr hlk hw (by decide) (by decide) (⟨rfl, rfl⟩) dMO_times_31
  refine lv_iload_n hx hb dMO_times_15 rfl (lv_at hl 2 rfl) ?_
  refine lv_sipush (v := 255) hx hb dMO_times_16 (by decide) ?_
  refine lv_icmp_le (tgt := 26) hx hb dMO_times_19 (by decide) (fun h19 => ?_) (fun h19 => ?_)
  · skip
    exact False.elim (by rcases isB_no hby with h | h; exact h12 h; exact Int32.not_lt.mpr h19 h)
  refine lv_iconst (v := (-1)) hx hb dMO_times_22 (by decide) ?_
  refine lv_goto (tgt := 31) hx hb dMO_times_23 (by decide) ?_
  exact x_iret S hr hlk hw (by decide) (by decide) (⟨rfl, rfl⟩) dMO_times_31

set_option maxHeartbeats 4000000 in
set_option maxRecDepth 100000 in
theorem m_times_ok (l : Launch) (D : va_G) (cI cZ cV : ClassId) (g : Nat) (a : Int32) (b : Int32) (ha : ¬ fIsB a = 0) (hby : ¬ fIsB b = 0) : XI l yMO_times cMO_times 3 (some .int) D (xT3 cI cZ cV) 1 0 0 [.ref g, .int a, .int b] [] (fun r u => r = fProd a b ∧ u = []) := by
  intro sz
  refine x_ofW (Qc := fun A => va_Qi _ (xB D A) A) sz (by decide) (Nat.le_of_ble_eq_true rfl) ?_
  intro p e s m args below meth c A ls S hr hlk hnm hw hl
  obtain ⟨hx, hb, hml, hown, hts⟩ := id S
  have hl : lv_has ls 3 [(0, .ref g), (1, .int a), (2, .int b)] := hl
  refine lv_iload_n hx hb dMO_times_0 rfl (lv_at hl 1 rfl) ?_
  refine lv_if_lt (tgt := 22) hx hb dMO_times_1 (by decide) (fun h1 => absurd h1 (isB_of ha).1) (fun h1 => ?_)
  refine lv_iload_n hx hb dMO_times_4 rfl (lv_at hl 1 rfl) ?_
  refine lv_sipush (v := 255) hx hb dMO_times_5 (by decide) ?_
  refine lv_icmp_gt (tgt := 22) hx hb dMO_times_8 (by decide) (fun h8 => absurd h8 (isB_of ha).2) (fun h8 => ?_)
  refine lv_iload_n hx hb dMO_times_11 rfl (lv_at hl 2 rfl) ?_
  refine lv_if_lt (tgt := 22) hx hb dMO_times_12 (by decide) (fun h12 => absurd h12 (isB_of hby).1) (fun h12 => ?_)
  refine lv_iload_n hx hb dMO_times_15 rfl (lv_at hl 2 rfl) ?_
  refine lv_sipush (v := 255) hx hb dMO_times_16 (by decide) ?_
  refine lv_icmp_le (tgt := 26) hx hb dMO_times_19 (by decide) (fun h19 => ?_) (fun h19 => absurd (Int32.not_lt.mp (isB_of hby).2) h19)
  refine lv_iload_n hx hb dMO_times_26 rfl (lv_at hl 1 rfl) ?_
  refine lv_iload_n hx hb dMO_times_27 rfl (lv_at hl 2 rfl) ?_
  refine x_calliD (ws' := []) hw [] rfl rfl (x_runS (n := 2) (rest := []) (As := [.int a, .int b]) S hw (m_prod l D cI cZ cV a b _) xh_2_230 xh_2_228 xh_2_229 xh_1_6 (by decide +kernel) ⟨by decide, by decide⟩ [] rfl rfl rfl hl.1 rfl (Nat.le_of_ble_eq_true rfl) dMO_times_28 ⟨by decide, by decide⟩) rfl rfl (fun H locs hw => ?_)
  exact x_iret S hr hlk hw (by decide) (by decide) (⟨rfl, rfl⟩) dMO_times_31

set_option maxHeartbeats 4000000 in
set_option maxRecDepth 100000 in
theorem m_rot_full1 (l : Launch) (D : va_G) (cI cZ cV : ClassId) (g : Nat) (mP : Nat) (mS : Nat) (mK : Nat) (mL : Nat) (mT : Nat) (mZ : Nat) (mD : Nat) (mH : Nat) (mG : Nat) (mC : Nat) (m1 : Nat) (m2 : Nat) (m3 : Nat) (m4 : Nat) (mB : Nat) (mX : Nat) (mY : Nat) (cuts : Int32) (siz : Int32) (ctr : Int32) (n1 : Nat) (l0 : Nat) (n : Nat) (hn : n1 = 8) : XI l yMO_rotate cMO_rotate 4 (some .int) D (xT3 cI cZ cV) 1 0 0 [.ref g] [(g, .inr (6, [.ref mP, .int (nI n), .int (nI n1), .ref mS, .ref mK, .ref mL, .ref mT, .ref mZ, .ref mD, .ref mH, .ref mG, .ref mC, .int cuts, .int (nI l0), .ref m1, .ref m2, .ref m3, .ref m4, .ref mB, .int siz, .int ctr, .ref mX, .ref mY]))] (fun r u => r = -2 ∧ u = [(g, .inr (6, [.ref mP, .int (nI n), .int (nI n1), .ref mS, .ref mK, .ref mL, .ref mT, .ref mZ, .ref mD, .ref mH, .ref mG, .ref mC, .int cuts, .int (nI l0), .ref m1, .ref m2, .ref m3, .ref m4, .ref mB, .int siz, .int ctr, .ref mX, .ref mY]))]) := by
  intro sz
  refine x_ofW (Qc := fun A => va_Qi _ (xB D A) A) sz (by decide) (Nat.le_of_ble_eq_true rfl) ?_
  intro p e s m args below meth c A ls S hr hlk hnm hw hl
  obtain ⟨hx, hb, hml, hown, hts⟩ := id S
  have hl : lv_has ls 4 [(0, .ref g)] := hl
  refine lv_aload_n hx hb dMO_rotate_0 rfl (lv_at hl 0 rfl) ?_
  refine x_get S hw (C := RMO) (T := TMO) (N := 23) inMO 0 rfl rfl 2 (by decide) xh_2_147 (v := .int (nI n1)) rfl dMO_rotate_1 ?_
  refine lv_bipush (v := 8) hx hb dMO_rotate_4 (by decide) ?_
  refine lv_icmp_eq (tgt := 18) hx hb dMO_rotate_6 (by decide) (fun h6 => ?_) (fun h6 => absurd (by rw [hn]; rfl) h6)
  refine lv_bipush (v := (-2)) hx hb dMO_rotate_18 (by decide) ?_
  exact x_iret S hr hlk hw (by decide) (by decide) (⟨rfl, rfl⟩) dMO_rotate_20

set_option maxHeartbeats 4000000 in
set_option maxRecDepth 100000 in
theorem m_rot_full2 (l : Launch) (D : va_G) (cI cZ cV : ClassId) (g : Nat) (mP : Nat) (mS : Nat) (mK : Nat) (mL : Nat) (mT : Nat) (mZ : Nat) (mD : Nat) (mH : Nat) (mG : Nat) (mC : Nat) (m1 : Nat) (m2 : Nat) (m3 : Nat) (m4 : Nat) (mB : Nat) (mX : Nat) (mY : Nat) (cuts : Int32) (siz : Int32) (ctr : Int32) (n1 : Nat) (l0 : Nat) (n : Nat) (hn : n1 < 8) (hc : l0 = 80) : XI l yMO_rotate cMO_rotate 4 (some .int) D (xT3 cI cZ cV) 1 0 0 [.ref g] [(g, .inr (6, [.ref mP, .int (nI n), .int (nI n1), .ref mS, .ref mK, .ref mL, .ref mT, .ref mZ, .ref mD, .ref mH, .ref mG, .ref mC, .int cuts, .int (nI l0), .ref m1, .ref m2, .ref m3, .ref m4, .ref mB, .int siz, .int ctr, .ref mX, .ref mY]))] (fun r u => r = -2 ∧ u = [(g, .inr (6, [.ref mP, .int (nI n), .int (nI n1), .ref mS, .ref mK, .ref mL, .ref mT, .ref mZ, .ref mD, .ref mH, .ref mG, .ref mC, .int cuts, .int (nI l0), .ref m1, .ref m2, .ref m3, .ref m4, .ref mB, .int siz, .int ctr, .ref mX, .ref mY]))]) := by
  intro sz
  refine x_ofW (Qc := fun A => va_Qi _ (xB D A) A) sz (by decide) (Nat.le_of_ble_eq_true rfl) ?_
  intro p e s m args below meth c A ls S hr hlk hnm hw hl
  obtain ⟨hx, hb, hml, hown, hts⟩ := id S
  have hl : lv_has ls 4 [(0, .ref g)] := hl
  refine lv_aload_n hx hb dMO_rotate_0 rfl (lv_at hl 0 rfl) ?_
  refine x_get S hw (C := RMO) (T := TMO) (N := 23) inMO 0 rfl rfl 2 (by decide) xh_2_147 (v := .int (nI n1)) rfl dMO_rotate_1 ?_
  refine lv_bipush (v := 8) hx hb dMO_rotate_4 (by decide) ?_
  refine lv_icmp_eq (tgt := 18) hx hb dMO_rotate_6 (by decide) (fun h6 => absurd h6 (fun e => by have := (nI_eq (a := n1) (b := 8) (by omega) (by decide)).mp e; omega)) (fun h6 => ?_)
  refine lv_aload_n hx hb dMO_rotate_9 rfl (lv_at hl 0 rfl) ?_
  refine x_get S hw (C := RMO) (T := TMO) (N := 23) inMO 0 rfl rfl 13 (by decide) xh_2_158 (v := .int (nI l0)) rfl dMO_rotate_10 ?_
  refine lv_bipush (v := 80) hx hb dMO_rotate_13 (by decide) ?_
  refine lv_icmp_ne (tgt := 21) hx hb dMO_rotate_15 (by decide) (fun h15 => absurd (by rw [hc]; rfl) h15) (fun h15 => ?_)
  refine lv_bipush (v := (-2)) hx hb dMO_rotate_18 (by decide) ?_
  exact x_iret S hr hlk hw (by decide) (by decide) (⟨rfl, rfl⟩) dMO_rotate_20

set_option maxHeartbeats 4000000 in
set_option maxRecDepth 100000 in
theorem m_rot_coins (l : Launch) (D : va_G) (cI cZ cV : ClassId) (g : Nat) (mP : Nat) (mS : Nat) (mK : Nat) (mL : Nat) (mT : Nat) (mZ : Nat) (mD : Nat) (mH : Nat) (mG : Nat) (mC : Nat) (m1 : Nat) (m2 : Nat) (m3 : Nat) (m4 : Nat) (mB : Nat) (mX : Nat) (mY : Nat) (cuts : Int32) (siz : Int32) (ctr : Int32) (n1 : Nat) (l0 : Nat) (n : Nat) (hn : n1 < 8) (hc : l0 < 80) (hk : n < 4) : XI l yMO_rotate cMO_rotate 4 (some .int) D (xT3 cI cZ cV) 1 0 0 [.ref g] [(g, .inr (6, [.ref mP, .int (nI n), .int (nI n1), .ref mS, .ref mK, .ref mL, .ref mT, .ref mZ, .ref mD, .ref mH, .ref mG, .ref mC, .int cuts, .int (nI l0), .ref m1, .ref m2, .ref m3, .ref m4, .ref mB, .int siz, .int ctr, .ref mX, .ref mY]))] (fun r u => r = -3 ∧ u = [(g, .inr (6, [.ref mP, .int (nI n), .int (nI n1), .ref mS, .ref mK, .ref mL, .ref mT, .ref mZ, .ref mD, .ref mH, .ref mG, .ref mC, .int cuts, .int (nI l0), .ref m1, .ref m2, .ref m3, .ref m4, .ref mB, .int siz, .int ctr, .ref mX, .ref mY]))]) := by
  intro sz
  refine x_ofW (Qc := fun A => va_Qi _ (xB D A) A) sz (by decide) (Nat.le_of_ble_eq_true rfl) ?_
  intro p e s m args below meth c A ls S hr hlk hnm hw hl
  obtain ⟨hx, hb, hml, hown, hts⟩ := id S
  have hl : lv_has ls 4 [(0, .ref g)] := hl
  refine lv_aload_n hx hb dMO_rotate_0 rfl (lv_at hl 0 rfl) ?_
  refine x_get S hw (C := RMO) (T := TMO) (N := 23) inMO 0 rfl rfl 2 (by decide) xh_2_147 (v := .int (nI n1)) rfl dMO_rotate_1 ?_
  refine lv_bipush (v := 8) hx hb dMO_rotate_4 (by decide) ?_
  refine lv_icmp_eq (tgt := 18) hx hb dMO_rotate_6 (by decide) (fun h6 => absurd h6 (fun e => by have := (nI_eq (a := n1) (b := 8) (by omega) (by decide)).mp e; omega)) (fun h6 => ?_)
  refine lv_aload_n hx hb dMO_rotate_9 rfl (lv_at hl 0 rfl) ?_
  refine x_get S hw (C := RMO) (T := TMO) (N := 23) inMO 0 rfl rfl 13 (by decide) xh_2_158 (v := .int (nI l0)) rfl dMO_rotate_10 ?_
  refine lv_bipush (v := 80) hx hb dMO_rotate_13 (by decide) ?_
  refine lv_icmp_ne (tgt := 21) hx hb dMO_rotate_15 (by decide) (fun h15 => ?_) (fun h15 => absurd h15 (fun e => by have := (nI_eq (a := l0) (b := 80) (by omega) (by decide)).mp e; omega))
  refine lv_aload_n hx hb dMO_rotate_21 rfl (lv_at hl 0 rfl) ?_
  refine x_get S hw (C := RMO) (T := TMO) (N := 23) inMO 0 rfl rfl 1 (by decide) xh_2_146 (v := .int (nI n)) rfl dMO_rotate_22 ?_
  refine lv_iconst (v := 4) hx hb dMO_rotate_25 (by decide) ?_
  refine lv_icmp_ge (tgt := 32) hx hb dMO_rotate_26 (by decide) (fun h26 => absurd h26 (nI_ge (b := 4) (by omega) (by decide))) (fun h26 => ?_)
  refine lv_bipush (v := (-3)) hx hb dMO_rotate_29 (by decide) ?_
  exact x_iret S hr hlk hw (by decide) (by decide) (⟨rfl, rfl⟩) dMO_rotate_31

set_option maxHeartbeats 4000000 in
set_option maxRecDepth 100000 in
theorem ml_rot {p : Program} {l : Launch} {e : Env} {s : State} {m : MethodId} {args : Array Value} {below : List Frame} {meth : Method} {c : Code} {Q : State → Prop} {D : va_G} {A : Nat → Prop} {cI cZ cV : ClassId} {H0 : Heap} {R : Room} {cells slots : Nat} (hR : R = (xR 2 0 0)) (hC : cells = 0 ∧ slots = 0) (S : CallFix p m c cMO_rotate 4 s args xAll "EscrowedVersionsModel") (g : Nat) (mP : Nat) (mS : Nat) (mK : Nat) (mL : Nat) (mT : Nat) (mZ : Nat) (mD : Nat) (mH : Nat) (mG : Nat) (mC : Nat) (m1 : Nat) (m2 : Nat) (m3 : Nat) (m4 : Nat) (mB : Nat) (mX : Nat) (mY : Nat) (cnt : Int32) (cuts : Int32) (lin : Int32) (siz : Int32) (ctr : Int32) (st : Nat → Int32) (se : Nat → Int32) (pu : Nat → Int32) (ks : Nat → Int32) (ns : Nat → Int32) (ds : Nat → Int32) (ss : Nat → Int32) (o9 : Int32) (c0 : Nat) (hc0 : c0 + 4 ≤ 64)
    (kk : ∀ (ls : Array Slot) (H : Heap) (locs : List Loc), xW D (xT3 cI cZ cV) A H0 H locs [(g, .inr (6, [.ref mP, .int (nI (c0 + 0)), .int cnt, .ref mS, .ref mK, .ref mL, .ref mT, .ref mZ, .ref mD, .ref mH, .ref mG, .ref mC, .int cuts, .int lin, .ref m1, .ref m2, .ref m3, .ref m4, .ref mB, .int siz, .int ctr, .ref mX, .ref mY])), (mS, .inl (cI, 8, .inl st)), (mK, .inl (cI, 8, .inl se)), (mP, .inl (cI, 64, .inl (pyR pu (c0 + 4) 4))), (m1, .inl (cI, 80, .inl ks)), (m2, .inl (cI, 80, .inl ns)), (m3, .inl (cI, 80, .inl ds)), (m4, .inl (cI, 80, .inl ss))] s → lv_has ls 4 [(0, .ref g), (1, .int o9), (2, .int (rtF pu (c0 + 4) 4)), (3, .int (nI 4))] → W p l e R s m args below meth c H locs cells slots Q (F0 m 73 ls [])) :
    ∀ (n k : Nat) (ls : Array Slot) (H : Heap) (locs : List Loc), k + n = 4 → xW D (xT3 cI cZ cV) A H0 H locs [(g, .inr (6, [.ref mP, .int (nI (c0 + n)), .int cnt, .ref mS, .ref mK, .ref mL, .ref mT, .ref mZ, .ref mD, .ref mH, .ref mG, .ref mC, .int cuts, .int lin, .ref m1, .ref m2, .ref m3, .ref m4, .ref mB, .int siz, .int ctr, .ref mX, .ref mY])), (mS, .inl (cI, 8, .inl st)), (mK, .inl (cI, 8, .inl se)), (mP, .inl (cI, 64, .inl (pyR pu (c0 + 4) k))), (m1, .inl (cI, 80, .inl ks)), (m2, .inl (cI, 80, .inl ns)), (m3, .inl (cI, 80, .inl ds)), (m4, .inl (cI, 80, .inl ss))] s → lv_has ls 4 [(0, .ref g), (1, .int o9), (2, .int (rtF pu (c0 + 4) k)), (3, .int (nI k))] → W p l e R s m args below meth c H locs cells slots Q (F0 m 52 ls []) := by
  obtain ⟨hx, hb, hml, hown, hts⟩ := id S
  subst hR
  obtain ⟨rfl, rfl⟩ := hC
  intro n
  induction n with
  | zero =>
    intro k ls H locs hk hw hl
    obtain rfl : 4 = k := by omega
    refine lv_iload_n hx hb dMO_rotate_52 rfl (lv_at hl 3 rfl) ?_
    refine lv_iconst (v := 4) hx hb dMO_rotate_53 (by decide) ?_
    refine lv_icmp_ge (tgt := 73) hx hb dMO_rotate_54 (by decide) (fun h54 => ?_) (fun h54 => absurd (by decide +kernel) h54)
    exact kk ls H locs hw (lv_sub hl [0, 1, 2, 3] rfl)
  | succ n ih =>
    intro k ls H locs hk hw hl
    have hkN : k < 4 := by omega
    refine lv_iload_n hx hb dMO_rotate_52 rfl (lv_at hl 3 rfl) ?_
    refine lv_iconst (v := 4) hx hb dMO_rotate_53 (by decide) ?_
    refine lv_icmp_ge (tgt := 73) hx hb dMO_rotate_54 (by decide) (fun h54 => absurd h54 (nI_ge (b := 4) hkN (by decide))) (fun h54 => ?_)
    refine lv_iload_n hx hb dMO_rotate_57 rfl (lv_at hl 2 rfl) ?_
    refine lv_bipush (v := 8) hx hb dMO_rotate_58 (by decide) ?_
    refine lv_ishl hx hb dMO_rotate_60 ?_
    refine lv_aload_n hx hb dMO_rotate_61 rfl (lv_at hl 0 rfl) ?_
    refine x_calliD (ws' := [(g, .inr (6, [.ref mP, .int (nI (c0 + n)), .int cnt, .ref mS, .ref mK, .ref mL, .ref mT, .ref mZ, .ref mD, .ref mH, .ref mG, .ref mC, .int cuts, .int lin, .ref m1, .ref m2, .ref m3, .ref m4, .ref mB, .int siz, .int ctr, .ref mX, .ref mY])), (mS, .inl (cI, 8, .inl st)), (mK, .inl (cI, 8, .inl se)), (mP, .inl (cI, 64, .inl (pyF (pyR pu (c0 + 4) k) (c0 + n)))), (m1, .inl (cI, 80, .inl ks)), (m2, .inl (cI, 80, .inl ns)), (m3, .inl (cI, 80, .inl ds)), (m4, .inl (cI, 80, .inl ss))]) hw [0, 3] rfl rfl (x_runV (n := 0) (rest := [.int ((rtF pu (c0 + 4) k) <<< ((8 : Int32) &&& 31))]) (As := []) S hw (m_pay l D cI cZ cV g mP mS mK mL mT mZ mD mH mG mC m1 m2 m3 m4 mB mX mY cnt cuts lin siz ctr (pyR pu (c0 + 4) k) (c0 + n) (by omega) _) xh_3_2 xh_2_239 xh_3_1 xsel_MO_pay xh_1_6 (by decide +kernel) ⟨by decide, by decide⟩ [0, 3] rfl rfl (ci := 6) (q0 := 0) rfl rfl rfl hl.1 rfl (Nat.le_of_ble_eq_true rfl) dMO_rotate_62 ⟨by decide, by decide⟩) rfl rfl (fun H locs hw => ?_)
    refine lv_ior hx hb dMO_rotate_65 ?_
    refine lv_istore_n (lv' := [(2, .int (((rtF pu (c0 + 4) k) <<< ((8 : Int32) &&& 31)) ||| ((pyR pu (c0 + 4) k) 0))), (0, .ref g), (1, .int o9), (3, .int (nI k))]) hx hb dMO_rotate_66 rfl hl (by decide) rfl (fun ls hl => ?_)
    refine lv_iinc (v := nI (k + 1)) (lv' := [(3, .int (nI (k + 1))), (2, .int (((rtF pu (c0 + 4) k) <<< ((8 : Int32) &&& 31)) ||| ((pyR pu (c0 + 4) k) 0))), (0, .ref g), (1, .int o9)]) hx hb dMO_rotate_67 hl (k := 3) rfl ((nI_succ _).symm) (by decide) rfl (fun ls hl => ?_)
    refine lv_goto (tgt := 52) hx hb dMO_rotate_70 (by decide) ?_
    have e0 : rtF pu (c0 + 4) (k + 1) = ((rtF pu (c0 + 4) k) <<< ((8 : Int32) &&& 31)) ||| ((pyR pu (c0 + 4) k) 0) := by simp only [rtF]
    have e1 : pyR pu (c0 + 4) (k + 1) = pyF (pyR pu (c0 + 4) k) (c0 + n) := by show pyF (pyR pu (c0 + 4) k) (c0 + 4 - 1 - k) = _; rw [show c0 + 4 - 1 - k = c0 + n by omega]
    refine ih (k + 1) ls H locs (by omega) ?_ ?_
    · rw [e1]; exact hw
    · rw [e0]; exact lv_sub hl [2, 3, 1, 0] rfl

set_option maxHeartbeats 4000000 in
set_option maxRecDepth 100000 in
theorem m_rot_none (l : Launch) (D : va_G) (cI cZ cV : ClassId) (g : Nat) (mP : Nat) (mS : Nat) (mK : Nat) (mL : Nat) (mT : Nat) (mZ : Nat) (mD : Nat) (mH : Nat) (mG : Nat) (mC : Nat) (m1 : Nat) (m2 : Nat) (m3 : Nat) (m4 : Nat) (mB : Nat) (mX : Nat) (mY : Nat) (cuts : Int32) (siz : Int32) (ctr : Int32) (n1 : Nat) (l0 : Nat) (n : Nat) (st : Nat → Int32) (se : Nat → Int32) (pu : Nat → Int32) (ks : Nat → Int32) (ns : Nat → Int32) (ds : Nat → Int32) (ss : Nat → Int32) (hn : n1 < 8) (hc : l0 < 80) (hk : n ≤ 60) (hall : ∀ v, v < n1 → ¬ st v = 1) : XI l yMO_rotate cMO_rotate 4 (some .int) D (xT3 cI cZ cV) 2 0 0 [.ref g] [(g, .inr (6, [.ref mP, .int (nI (n + 4)), .int (nI n1), .ref mS, .ref mK, .ref mL, .ref mT, .ref mZ, .ref mD, .ref mH, .ref mG, .ref mC, .int cuts, .int (nI l0), .ref m1, .ref m2, .ref m3, .ref m4, .ref mB, .int siz, .int ctr, .ref mX, .ref mY])), (mS, .inl (cI, 8, .inl st)), (mK, .inl (cI, 8, .inl se)), (mP, .inl (cI, 64, .inl pu)), (m1, .inl (cI, 80, .inl ks)), (m2, .inl (cI, 80, .inl ns)), (m3, .inl (cI, 80, .inl ds)), (m4, .inl (cI, 80, .inl ss))] (fun r u => r = nI n1 ∧ u = [(g, .inr (6, [.ref mP, .int (nI n), .int (nI (n1 + 1)), .ref mS, .ref mK, .ref mL, .ref mT, .ref mZ, .ref mD, .ref mH, .ref mG, .ref mC, .int cuts, .int (nI (l0 + 1)), .ref m1, .ref m2, .ref m3, .ref m4, .ref mB, .int siz, .int ctr, .ref mX, .ref mY])), (mS, .inl (cI, 8, .inl (upd st n1 1))), (mK, .inl (cI, 8, .inl (upd se n1 (rtF pu (n + 4) 4)))), (mP, .inl (cI, 64, .inl (pyR pu (n + 4) 4))), (m1, .inl (cI, 80, .inl (upd ks l0 1))), (m2, .inl (cI, 80, .inl (upd ns l0 (nI n1)))), (m3, .inl (cI, 80, .inl (upd ds l0 0))), (m4, .inl (cI, 80, .inl (upd ss l0 (fMix (fMix (fMix (jBef ss l0) 1) (nI n1)) 0))))]) := by
  intro sz
  refine x_ofW (Qc := fun A => va_Qi _ (xB D A) A) sz (by decide) (Nat.le_of_ble_eq_true rfl) ?_
  intro p e s m args below meth c A ls S hr hlk hnm hw hl
  obtain ⟨hx, hb, hml, hown, hts⟩ := id S
  have hl : lv_has ls 4 [(0, .ref g)] := hl
  refine lv_aload_n hx hb dMO_rotate_0 rfl (lv_at hl 0 rfl) ?_
  refine x_get S hw (C := RMO) (T := TMO) (N := 23) inMO 0 rfl rfl 2 (by decide) xh_2_147 (v := .int (nI n1)) rfl dMO_rotate_1 ?_
  refine lv_bipush (v := 8) hx hb dMO_rotate_4 (by decide) ?_
  refine lv_icmp_eq (tgt := 18) hx hb dMO_rotate_6 (by decide) (fun h6 => absurd h6 (fun e => by have := (nI_eq (a := n1) (b := 8) (by omega) (by decide)).mp e; omega)) (fun h6 => ?_)
  refine lv_aload_n hx hb dMO_rotate_9 rfl (lv_at hl 0 rfl) ?_
  refine x_get S hw (C := RMO) (T := TMO) (N := 23) inMO 0 rfl rfl 13 (by decide) xh_2_158 (v := .int (nI l0)) rfl dMO_rotate_10 ?_
  refine lv_bipush (v := 80) hx hb dMO_rotate_13 (by decide) ?_
  refine lv_icmp_ne (tgt := 21) hx hb dMO_rotate_15 (by decide) (fun h15 => ?_) (fun h15 => absurd h15 (fun e => by have := (nI_eq (a := l0) (b := 80) (by omega) (by decide)).mp e; omega))
  refine lv_aload_n hx hb dMO_rotate_21 rfl (lv_at hl 0 rfl) ?_
  refine x_get S hw (C := RMO) (T := TMO) (N := 23) inMO 0 rfl rfl 1 (by decide) xh_2_146 (v := .int (nI (n + 4))) rfl dMO_rotate_22 ?_
  refine lv_iconst (v := 4) hx hb dMO_rotate_25 (by decide) ?_
  refine lv_icmp_ge (tgt := 32) hx hb dMO_rotate_26 (by decide) (fun h26 => ?_) (fun h26 => absurd (nI_le (a := 4) (b := n + 4) (by omega) (by omega)) h26)
  refine lv_aload_n hx hb dMO_rotate_32 rfl (lv_at hl 0 rfl) ?_
  refine x_calliD (ws' := [(g, .inr (6, [.ref mP, .int (nI (n + 4)), .int (nI n1), .ref mS, .ref mK, .ref mL, .ref mT, .ref mZ, .ref mD, .ref mH, .ref mG, .ref mC, .int cuts, .int (nI l0), .ref m1, .ref m2, .ref m3, .ref m4, .ref mB, .int siz, .int ctr, .ref mX, .ref mY])), (mS, .inl (cI, 8, .inl st)), (mK, .inl (cI, 8, .inl se)), (mP, .inl (cI, 64, .inl pu)), (m1, .inl (cI, 80, .inl ks)), (m2, .inl (cI, 80, .inl ns)), (m3, .inl (cI, 80, .inl ds)), (m4, .inl (cI, 80, .inl ss))]) hw [0, 1] rfl rfl (x_runV (n := 0) (rest := []) (As := []) S hw (m_act_none l D cI cZ cV g mP mS mK mL mT mZ mD mH mG mC m1 m2 m3 m4 mB mX mY (nI (n + 4)) cuts (nI l0) siz ctr st n1 (by omega) hall _) xh_2_238 xh_2_235 xh_2_237 xsel_MO_active xh_1_6 (by decide +kernel) ⟨by decide, by decide⟩ [0, 1] rfl rfl (ci := 6) (q0 := 0) rfl rfl rfl hl.1 rfl (Nat.le_of_ble_eq_true rfl) dMO_rotate_33 ⟨by decide, by decide⟩) rfl rfl (fun H locs hw => ?_)
  refine lv_istore_n (lv' := [(1, .int (-1)), (0, .ref g)]) hx hb dMO_rotate_36 rfl hl (by decide) rfl (fun ls hl => ?_)
  refine lv_iload_n hx hb dMO_rotate_37 rfl (lv_at hl 0 rfl) ?_
  refine lv_if_lt (tgt := 48) hx hb dMO_rotate_38 (by decide) (fun h38 => ?_) (fun h38 => absurd (by decide) h38)
  refine lv_iconst (v := 0) hx hb dMO_rotate_48 (by decide) ?_
  refine lv_istore_n (lv' := [(2, .int 0), (1, .int (-1)), (0, .ref g)]) hx hb dMO_rotate_49 rfl hl (by decide) rfl (fun ls hl => ?_)
  refine lv_iconst (v := 0) hx hb dMO_rotate_50 (by decide) ?_
  refine lv_istore_n (lv' := [(3, .int 0), (2, .int 0), (1, .int (-1)), (0, .ref g)]) hx hb dMO_rotate_51 rfl hl (by decide) rfl (fun ls hl => ?_)
  refine ml_rot rfl ⟨rfl, rfl⟩ S g mP mS mK mL mT mZ mD mH mG mC m1 m2 m3 m4 mB mX mY (nI n1) cuts (nI l0) siz ctr st se pu ks ns ds ss (-1) n (by omega) (fun ls H locs hw hl => ?_) 4 0 ls _ _ (Nat.zero_add _) hw (lv_sub hl [3, 2, 1, 0] rfl)
  refine lv_aload_n hx hb dMO_rotate_73 rfl (lv_at hl 0 rfl) ?_
  refine x_get S hw (C := RMO) (T := TMO) (N := 23) inMO 0 rfl rfl 3 (by decide) xh_2_148 (v := .ref mS) rfl dMO_rotate_74 ?_
  refine lv_aload_n hx hb dMO_rotate_77 rfl (lv_at hl 0 rfl) ?_
  refine x_get S hw (C := RMO) (T := TMO) (N := 23) inMO 0 rfl rfl 2 (by decide) xh_2_147 (v := .int (nI n1)) rfl dMO_rotate_78 ?_
  refine lv_iconst (v := 1) hx hb dMO_rotate_81 (by decide) ?_
  refine x_iast S hw 1 0 rfl rfl (j := n1) (vp_in_nI (by omega) (by omega)) (nI_clamp (by omega)) (ws' := [(g, .inr (6, [.ref mP, .int (nI (n + 0)), .int (nI n1), .ref mS, .ref mK, .ref mL, .ref mT, .ref mZ, .ref mD, .ref mH, .ref mG, .ref mC, .int cuts, .int (nI l0), .ref m1, .ref m2, .ref m3, .ref m4, .ref mB, .int siz, .int ctr, .ref mX, .ref mY])), (mS, .inl (cI, 8, .inl (upd st n1 1))), (mK, .inl (cI, 8, .inl se)), (mP, .inl (cI, 64, .inl (pyR pu (n + 4) 4))), (m1, .inl (cI, 80, .inl ks)), (m2, .inl (cI, 80, .inl ns)), (m3, .inl (cI, 80, .inl ds)), (m4, .inl (cI, 80, .inl ss))]) rfl dMO_rotate_82 (fun H locs hw => ?_)
  refine lv_aload_n hx hb dMO_rotate_83 rfl (lv_at hl 0 rfl) ?_
  refine x_get S hw (C := RMO) (T := TMO) (N := 23) inMO 0 rfl rfl 4 (by decide) xh_2_149 (v := .ref mK) rfl dMO_rotate_84 ?_
  refine lv_aload_n hx hb dMO_rotate_87 rfl (lv_at hl 0 rfl) ?_
  refine x_get S hw (C := RMO) (T := TMO) (N := 23) inMO 0 rfl rfl 2 (by decide) xh_2_147 (v := .int (nI n1)) rfl dMO_rotate_88 ?_
  refine lv_iload_n hx hb dMO_rotate_91 rfl (lv_at hl 2 rfl) ?_
  refine x_iast S hw 2 0 rfl rfl (j := n1) (vp_in_nI (by omega) (by omega)) (nI_clamp (by omega)) (ws' := [(g, .inr (6, [.ref mP, .int (nI (n + 0)), .int (nI n1), .ref mS, .ref mK, .ref mL, .ref mT, .ref mZ, .ref mD, .ref mH, .ref mG, .ref mC, .int cuts, .int (nI l0), .ref m1, .ref m2, .ref m3, .ref m4, .ref mB, .int siz, .int ctr, .ref mX, .ref mY])), (mS, .inl (cI, 8, .inl (upd st n1 1))), (mK, .inl (cI, 8, .inl (upd se n1 (rtF pu (n + 4) 4)))), (mP, .inl (cI, 64, .inl (pyR pu (n + 4) 4))), (m1, .inl (cI, 80, .inl ks)), (m2, .inl (cI, 80, .inl ns)), (m3, .inl (cI, 80, .inl ds)), (m4, .inl (cI, 80, .inl ss))]) rfl dMO_rotate_92 (fun H locs hw => ?_)
  refine lv_aload_n hx hb dMO_rotate_93 rfl (lv_at hl 0 rfl) ?_
  refine lv_dup hx hb dMO_rotate_94 rfl ?_
  refine x_get S hw (C := RMO) (T := TMO) (N := 23) inMO 0 rfl rfl 2 (by decide) xh_2_147 (v := .int (nI n1)) rfl dMO_rotate_95 ?_
  refine lv_iconst (v := 1) hx hb dMO_rotate_98 (by decide) ?_
  refine lv_iadd hx hb dMO_rotate_99 ?_
  refine x_topi (y := nI (n1 + 1)) ((nI_succ _).symm) ?_
  refine x_put S hw (C := RMO) (T := TMO) (N := 23) inMO tyMO tyMO_ok nmMO 0 rfl rfl 2 (by decide) xh_2_147 rfl (v := .int (nI (n1 + 1))) rfl rfl (Nat.le_of_ble_eq_true rfl) (ws' := [(g, .inr (6, [.ref mP, .int (nI (n + 0)), .int (nI (n1 + 1)), .ref mS, .ref mK, .ref mL, .ref mT, .ref mZ, .ref mD, .ref mH, .ref mG, .ref mC, .int cuts, .int (nI l0), .ref m1, .ref m2, .ref m3, .ref m4, .ref mB, .int siz, .int ctr, .ref mX, .ref mY])), (mS, .inl (cI, 8, .inl (upd st n1 1))), (mK, .inl (cI, 8, .inl (upd se n1 (rtF pu (n + 4) 4)))), (mP, .inl (cI, 64, .inl (pyR pu (n + 4) 4))), (m1, .inl (cI, 80, .inl ks)), (m2, .inl (cI, 80, .inl ns)), (m3, .inl (cI, 80, .inl ds)), (m4, .inl (cI, 80, .inl ss))]) rfl dMO_rotate_100 (fun H locs hw => ?_)
  refine lv_aload_n hx hb dMO_rotate_103 rfl (lv_at hl 0 rfl) ?_
  refine lv_iconst (v := 1) hx hb dMO_rotate_104 (by decide) ?_
  refine lv_aload_n hx hb dMO_rotate_105 rfl (lv_at hl 0 rfl) ?_
  refine x_get S hw (C := RMO) (T := TMO) (N := 23) inMO 0 rfl rfl 2 (by decide) xh_2_147 (v := .int (nI (n1 + 1))) rfl dMO_rotate_106 ?_
  refine lv_iconst (v := 1) hx hb dMO_rotate_109 (by decide) ?_
  refine lv_isub hx hb dMO_rotate_110 ?_
  refine x_topi (y := nI n1) (nI_pred n1) ?_
  refine lv_iload_n hx hb dMO_rotate_111 rfl (lv_at hl 1 rfl) ?_
  refine lv_iconst (v := 1) hx hb dMO_rotate_112 (by decide) ?_
  refine lv_iadd hx hb dMO_rotate_113 ?_
  refine x_topi (y := 0) (by decide) ?_
  refine x_callvD (ws' := [(g, .inr (6, [.ref mP, .int (nI (n + 0)), .int (nI (n1 + 1)), .ref mS, .ref mK, .ref mL, .ref mT, .ref mZ, .ref mD, .ref mH, .ref mG, .ref mC, .int cuts, .int (nI (l0 + 1)), .ref m1, .ref m2, .ref m3, .ref m4, .ref mB, .int siz, .int ctr, .ref mX, .ref mY])), (mS, .inl (cI, 8, .inl (upd st n1 1))), (mK, .inl (cI, 8, .inl (upd se n1 (rtF pu (n + 4) 4)))), (mP, .inl (cI, 64, .inl (pyR pu (n + 4) 4))), (m1, .inl (cI, 80, .inl (upd ks l0 1))), (m2, .inl (cI, 80, .inl (upd ns l0 (nI n1)))), (m3, .inl (cI, 80, .inl (upd ds l0 0))), (m4, .inl (cI, 80, .inl (upd ss l0 (fMix (fMix (fMix (jBef ss l0) 1) (nI n1)) 0))))]) hw [0, 4, 5, 6, 7] rfl rfl (x_runV (n := 3) (rest := []) (As := [.int 1, .int (nI n1), .int 0]) S hw (m_write l D cI cZ cV g mP mS mK mL mT mZ mD mH mG mC m1 m2 m3 m4 mB mX mY (nI (n + 0)) (nI (n1 + 1)) cuts siz ctr ks ns ds ss l0 1 (nI n1) 0 hc _) xh_3_6 xh_3_3 xh_3_5 xsel_MO_write xh_1_6 (by decide +kernel) ⟨by decide, by decide⟩ [0, 4, 5, 6, 7] rfl rfl (ci := 6) (q0 := 0) rfl rfl rfl hl.1 rfl (Nat.le_of_ble_eq_true rfl) dMO_rotate_114 ⟨by decide, by decide⟩) rfl rfl (fun H locs hw => ?_)
  refine lv_aload_n hx hb dMO_rotate_117 rfl (lv_at hl 0 rfl) ?_
  refine x_get S hw (C := RMO) (T := TMO) (N := 23) inMO 0 rfl rfl 2 (by decide) xh_2_147 (v := .int (nI (n1 + 1))) rfl dMO_rotate_118 ?_
  refine lv_iconst (v := 1) hx hb dMO_rotate_121 (by decide) ?_
  refine lv_isub hx hb dMO_rotate_122 ?_
  refine x_topi (y := nI n1) (nI_pred n1) ?_
  exact x_iret S hr hlk hw (by decide) (by decide) (⟨rfl, rfl⟩) dMO_rotate_123

set_option maxHeartbeats 4000000 in
set_option maxRecDepth 100000 in
theorem m_rot_some (l : Launch) (D : va_G) (cI cZ cV : ClassId) (g : Nat) (mP : Nat) (mS : Nat) (mK : Nat) (mL : Nat) (mT : Nat) (mZ : Nat) (mD : Nat) (mH : Nat) (mG : Nat) (mC : Nat) (m1 : Nat) (m2 : Nat) (m3 : Nat) (m4 : Nat) (mB : Nat) (mX : Nat) (mY : Nat) (cuts : Int32) (siz : Int32) (ctr : Int32) (n1 : Nat) (l0 : Nat) (n : Nat) (st : Nat → Int32) (se : Nat → Int32) (pu : Nat → Int32) (ks : Nat → Int32) (ns : Nat → Int32) (ds : Nat → Int32) (ss : Nat → Int32) (a0 : Nat) (hn : n1 < 8) (hc : l0 < 80) (hk : n ≤ 60) (ha : a0 < n1) (hs : st a0 = 1) (hall : ∀ v, v < a0 → ¬ st v = 1) : XI l yMO_rotate cMO_rotate 4 (some .int) D (xT3 cI cZ cV) 2 0 0 [.ref g] [(g, .inr (6, [.ref mP, .int (nI (n + 4)), .int (nI n1), .ref mS, .ref mK, .ref mL, .ref mT, .ref mZ, .ref mD, .ref mH, .ref mG, .ref mC, .int cuts, .int (nI l0), .ref m1, .ref m2, .ref m3, .ref m4, .ref mB, .int siz, .int ctr, .ref mX, .ref mY])), (mS, .inl (cI, 8, .inl st)), (mK, .inl (cI, 8, .inl se)), (mP, .inl (cI, 64, .inl pu)), (m1, .inl (cI, 80, .inl ks)), (m2, .inl (cI, 80, .inl ns)), (m3, .inl (cI, 80, .inl ds)), (m4, .inl (cI, 80, .inl ss))] (fun r u => r = nI n1 ∧ u = [(g, .inr (6, [.ref mP, .int (nI n), .int (nI (n1 + 1)), .ref mS, .ref mK, .ref mL, .ref mT, .ref mZ, .ref mD, .ref mH, .ref mG, .ref mC, .int cuts, .int (nI (l0 + 1)), .ref m1, .ref m2, .ref m3, .ref m4, .ref mB, .int siz, .int ctr, .ref mX, .ref mY])), (mS, .inl (cI, 8, .inl (upd (upd st a0 2) n1 1))), (mK, .inl (cI, 8, .inl (upd se n1 (rtF pu (n + 4) 4)))), (mP, .inl (cI, 64, .inl (pyR pu (n + 4) 4))), (m1, .inl (cI, 80, .inl (upd ks l0 1))), (m2, .inl (cI, 80, .inl (upd ns l0 (nI n1)))), (m3, .inl (cI, 80, .inl (upd ds l0 (nI (a0 + 1))))), (m4, .inl (cI, 80, .inl (upd ss l0 (fMix (fMix (fMix (jBef ss l0) 1) (nI n1)) (nI (a0 + 1))))))]) := by
  intro sz
  refine x_ofW (Qc := fun A => va_Qi _ (xB D A) A) sz (by decide) (Nat.le_of_ble_eq_true rfl) ?_
  intro p e s m args below meth c A ls S hr hlk hnm hw hl
  obtain ⟨hx, hb, hml, hown, hts⟩ := id S
  have hl : lv_has ls 4 [(0, .ref g)] := hl
  refine lv_aload_n hx hb dMO_rotate_0 rfl (lv_at hl 0 rfl) ?_
  refine x_get S hw (C := RMO) (T := TMO) (N := 23) inMO 0 rfl rfl 2 (by decide) xh_2_147 (v := .int (nI n1)) rfl dMO_rotate_1 ?_
  refine lv_bipush (v := 8) hx hb dMO_rotate_4 (by decide) ?_
  refine lv_icmp_eq (tgt := 18) hx hb dMO_rotate_6 (by decide) (fun h6 => absurd h6 (fun e => by have := (nI_eq (a := n1) (b := 8) (by omega) (by decide)).mp e; omega)) (fun h6 => ?_)
  refine lv_aload_n hx hb dMO_rotate_9 rfl (lv_at hl 0 rfl) ?_
  refine x_get S hw (C := RMO) (T := TMO) (N := 23) inMO 0 rfl rfl 13 (by decide) xh_2_158 (v := .int (nI l0)) rfl dMO_rotate_10 ?_
  refine lv_bipush (v := 80) hx hb dMO_rotate_13 (by decide) ?_
  refine lv_icmp_ne (tgt := 21) hx hb dMO_rotate_15 (by decide) (fun h15 => ?_) (fun h15 => absurd h15 (fun e => by have := (nI_eq (a := l0) (b := 80) (by omega) (by decide)).mp e; omega))
  refine lv_aload_n hx hb dMO_rotate_21 rfl (lv_at hl 0 rfl) ?_
  refine x_get S hw (C := RMO) (T := TMO) (N := 23) inMO 0 rfl rfl 1 (by decide) xh_2_146 (v := .int (nI (n + 4))) rfl dMO_rotate_22 ?_
  refine lv_iconst (v := 4) hx hb dMO_rotate_25 (by decide) ?_
  refine lv_icmp_ge (tgt := 32) hx hb dMO_rotate_26 (by decide) (fun h26 => ?_) (fun h26 => absurd (nI_le (a := 4) (b := n + 4) (by omega) (by omega)) h26)
  refine lv_aload_n hx hb dMO_rotate_32 rfl (lv_at hl 0 rfl) ?_
  refine x_calliD (ws' := [(g, .inr (6, [.ref mP, .int (nI (n + 4)), .int (nI n1), .ref mS, .ref mK, .ref mL, .ref mT, .ref mZ, .ref mD, .ref mH, .ref mG, .ref mC, .int cuts, .int (nI l0), .ref m1, .ref m2, .ref m3, .ref m4, .ref mB, .int siz, .int ctr, .ref mX, .ref mY])), (mS, .inl (cI, 8, .inl st)), (mK, .inl (cI, 8, .inl se)), (mP, .inl (cI, 64, .inl pu)), (m1, .inl (cI, 80, .inl ks)), (m2, .inl (cI, 80, .inl ns)), (m3, .inl (cI, 80, .inl ds)), (m4, .inl (cI, 80, .inl ss))]) hw [0, 1] rfl rfl (x_runV (n := 0) (rest := []) (As := []) S hw (m_act_some l D cI cZ cV g mP mS mK mL mT mZ mD mH mG mC m1 m2 m3 m4 mB mX mY (nI (n + 4)) cuts (nI l0) siz ctr st n1 a0 (by omega) hs hall _) xh_2_238 xh_2_235 xh_2_237 xsel_MO_active xh_1_6 (by decide +kernel) ⟨by decide, by decide⟩ [0, 1] rfl rfl (ci := 6) (q0 := 0) rfl rfl rfl hl.1 rfl (Nat.le_of_ble_eq_true rfl) dMO_rotate_33 ⟨by decide, by decide⟩) rfl rfl (fun H locs hw => ?_)
  refine lv_istore_n (lv' := [(1, .int (nI a0)), (0, .ref g)]) hx hb dMO_rotate_36 rfl hl (by decide) rfl (fun ls hl => ?_)
  refine lv_iload_n hx hb dMO_rotate_37 rfl (lv_at hl 0 rfl) ?_
  refine lv_if_lt (tgt := 48) hx hb dMO_rotate_38 (by decide) (fun h38 => absurd h38 (nI_pos (by omega))) (fun h38 => ?_)
  refine lv_aload_n hx hb dMO_rotate_41 rfl (lv_at hl 1 rfl) ?_
  refine x_get S hw (C := RMO) (T := TMO) (N := 23) inMO 0 rfl rfl 3 (by decide) xh_2_148 (v := .ref mS) rfl dMO_rotate_42 ?_
  refine lv_iload_n hx hb dMO_rotate_45 rfl (lv_at hl 0 rfl) ?_
  refine lv_iconst (v := 2) hx hb dMO_rotate_46 (by decide) ?_
  refine x_iast S hw 1 0 rfl rfl (j := a0) (vp_in_nI (by omega) (by omega)) (nI_clamp (by omega)) (ws' := [(g, .inr (6, [.ref mP, .int (nI (n + 4)), .int (nI n1), .ref mS, .ref mK, .ref mL, .ref mT, .ref mZ, .ref mD, .ref mH, .ref mG, .ref mC, .int cuts, .int (nI l0), .ref m1, .ref m2, .ref m3, .ref m4, .ref mB, .int siz, .int ctr, .ref mX, .ref mY])), (mS, .inl (cI, 8, .inl (upd st a0 2))), (mK, .inl (cI, 8, .inl se)), (mP, .inl (cI, 64, .inl pu)), (m1, .inl (cI, 80, .inl ks)), (m2, .inl (cI, 80, .inl ns)), (m3, .inl (cI, 80, .inl ds)), (m4, .inl (cI, 80, .inl ss))]) rfl dMO_rotate_47 (fun H locs hw => ?_)
  refine lv_iconst (v := 0) hx hb dMO_rotate_48 (by decide) ?_
  refine lv_istore_n (lv' := [(2, .int 0), (1, .int (nI a0)), (0, .ref g)]) hx hb dMO_rotate_49 rfl hl (by decide) rfl (fun ls hl => ?_)
  refine lv_iconst (v := 0) hx hb dMO_rotate_50 (by decide) ?_
  refine lv_istore_n (lv' := [(3, .int 0), (2, .int 0), (1, .int (nI a0)), (0, .ref g)]) hx hb dMO_rotate_51 rfl hl (by decide) rfl (fun ls hl => ?_)
  refine ml_rot rfl ⟨rfl, rfl⟩ S g mP mS mK mL mT mZ mD mH mG mC m1 m2 m3 m4 mB mX mY (nI n1) cuts (nI l0) siz ctr (upd st a0 2) se pu ks ns ds ss (nI a0) n (by omega) (fun ls H locs hw hl => ?_) 4 0 ls _ _ (Nat.zero_add _) hw (lv_sub hl [3, 2, 1, 0] rfl)
  refine lv_aload_n hx hb dMO_rotate_73 rfl (lv_at hl 0 rfl) ?_
  refine x_get S hw (C := RMO) (T := TMO) (N := 23) inMO 0 rfl rfl 3 (by decide) xh_2_148 (v := .ref mS) rfl dMO_rotate_74 ?_
  refine lv_aload_n hx hb dMO_rotate_77 rfl (lv_at hl 0 rfl) ?_
  refine x_get S hw (C := RMO) (T := TMO) (N := 23) inMO 0 rfl rfl 2 (by decide) xh_2_147 (v := .int (nI n1)) rfl dMO_rotate_78 ?_
  refine lv_iconst (v := 1) hx hb dMO_rotate_81 (by decide) ?_
  refine x_iast S hw 1 0 rfl rfl (j := n1) (vp_in_nI (by omega) (by omega)) (nI_clamp (by omega)) (ws' := [(g, .inr (6, [.ref mP, .int (nI (n + 0)), .int (nI n1), .ref mS, .ref mK, .ref mL, .ref mT, .ref mZ, .ref mD, .ref mH, .ref mG, .ref mC, .int cuts, .int (nI l0), .ref m1, .ref m2, .ref m3, .ref m4, .ref mB, .int siz, .int ctr, .ref mX, .ref mY])), (mS, .inl (cI, 8, .inl (upd (upd st a0 2) n1 1))), (mK, .inl (cI, 8, .inl se)), (mP, .inl (cI, 64, .inl (pyR pu (n + 4) 4))), (m1, .inl (cI, 80, .inl ks)), (m2, .inl (cI, 80, .inl ns)), (m3, .inl (cI, 80, .inl ds)), (m4, .inl (cI, 80, .inl ss))]) rfl dMO_rotate_82 (fun H locs hw => ?_)
  refine lv_aload_n hx hb dMO_rotate_83 rfl (lv_at hl 0 rfl) ?_
  refine x_get S hw (C := RMO) (T := TMO) (N := 23) inMO 0 rfl rfl 4 (by decide) xh_2_149 (v := .ref mK) rfl dMO_rotate_84 ?_
  refine lv_aload_n hx hb dMO_rotate_87 rfl (lv_at hl 0 rfl) ?_
  refine x_get S hw (C := RMO) (T := TMO) (N := 23) inMO 0 rfl rfl 2 (by decide) xh_2_147 (v := .int (nI n1)) rfl dMO_rotate_88 ?_
  refine lv_iload_n hx hb dMO_rotate_91 rfl (lv_at hl 2 rfl) ?_
  refine x_iast S hw 2 0 rfl rfl (j := n1) (vp_in_nI (by omega) (by omega)) (nI_clamp (by omega)) (ws' := [(g, .inr (6, [.ref mP, .int (nI (n + 0)), .int (nI n1), .ref mS, .ref mK, .ref mL, .ref mT, .ref mZ, .ref mD, .ref mH, .ref mG, .ref mC, .int cuts, .int (nI l0), .ref m1, .ref m2, .ref m3, .ref m4, .ref mB, .int siz, .int ctr, .ref mX, .ref mY])), (mS, .inl (cI, 8, .inl (upd (upd st a0 2) n1 1))), (mK, .inl (cI, 8, .inl (upd se n1 (rtF pu (n + 4) 4)))), (mP, .inl (cI, 64, .inl (pyR pu (n + 4) 4))), (m1, .inl (cI, 80, .inl ks)), (m2, .inl (cI, 80, .inl ns)), (m3, .inl (cI, 80, .inl ds)), (m4, .inl (cI, 80, .inl ss))]) rfl dMO_rotate_92 (fun H locs hw => ?_)
  refine lv_aload_n hx hb dMO_rotate_93 rfl (lv_at hl 0 rfl) ?_
  refine lv_dup hx hb dMO_rotate_94 rfl ?_
  refine x_get S hw (C := RMO) (T := TMO) (N := 23) inMO 0 rfl rfl 2 (by decide) xh_2_147 (v := .int (nI n1)) rfl dMO_rotate_95 ?_
  refine lv_iconst (v := 1) hx hb dMO_rotate_98 (by decide) ?_
  refine lv_iadd hx hb dMO_rotate_99 ?_
  refine x_topi (y := nI (n1 + 1)) ((nI_succ _).symm) ?_
  refine x_put S hw (C := RMO) (T := TMO) (N := 23) inMO tyMO tyMO_ok nmMO 0 rfl rfl 2 (by decide) xh_2_147 rfl (v := .int (nI (n1 + 1))) rfl rfl (Nat.le_of_ble_eq_true rfl) (ws' := [(g, .inr (6, [.ref mP, .int (nI (n + 0)), .int (nI (n1 + 1)), .ref mS, .ref mK, .ref mL, .ref mT, .ref mZ, .ref mD, .ref mH, .ref mG, .ref mC, .int cuts, .int (nI l0), .ref m1, .ref m2, .ref m3, .ref m4, .ref mB, .int siz, .int ctr, .ref mX, .ref mY])), (mS, .inl (cI, 8, .inl (upd (upd st a0 2) n1 1))), (mK, .inl (cI, 8, .inl (upd se n1 (rtF pu (n + 4) 4)))), (mP, .inl (cI, 64, .inl (pyR pu (n + 4) 4))), (m1, .inl (cI, 80, .inl ks)), (m2, .inl (cI, 80, .inl ns)), (m3, .inl (cI, 80, .inl ds)), (m4, .inl (cI, 80, .inl ss))]) rfl dMO_rotate_100 (fun H locs hw => ?_)
  refine lv_aload_n hx hb dMO_rotate_103 rfl (lv_at hl 0 rfl) ?_
  refine lv_iconst (v := 1) hx hb dMO_rotate_104 (by decide) ?_
  refine lv_aload_n hx hb dMO_rotate_105 rfl (lv_at hl 0 rfl) ?_
  refine x_get S hw (C := RMO) (T := TMO) (N := 23) inMO 0 rfl rfl 2 (by decide) xh_2_147 (v := .int (nI (n1 + 1))) rfl dMO_rotate_106 ?_
  refine lv_iconst (v := 1) hx hb dMO_rotate_109 (by decide) ?_
  refine lv_isub hx hb dMO_rotate_110 ?_
  refine x_topi (y := nI n1) (nI_pred n1) ?_
  refine lv_iload_n hx hb dMO_rotate_111 rfl (lv_at hl 1 rfl) ?_
  refine lv_iconst (v := 1) hx hb dMO_rotate_112 (by decide) ?_
  refine lv_iadd hx hb dMO_rotate_113 ?_
  refine x_topi (y := nI (a0 + 1)) ((nI_succ _).symm) ?_
  refine x_callvD (ws' := [(g, .inr (6, [.ref mP, .int (nI (n + 0)), .int (nI (n1 + 1)), .ref mS, .ref mK, .ref mL, .ref mT, .ref mZ, .ref mD, .ref mH, .ref mG, .ref mC, .int cuts, .int (nI (l0 + 1)), .ref m1, .ref m2, .ref m3, .ref m4, .ref mB, .int siz, .int ctr, .ref mX, .ref mY])), (mS, .inl (cI, 8, .inl (upd (upd st a0 2) n1 1))), (mK, .inl (cI, 8, .inl (upd se n1 (rtF pu (n + 4) 4)))), (mP, .inl (cI, 64, .inl (pyR pu (n + 4) 4))), (m1, .inl (cI, 80, .inl (upd ks l0 1))), (m2, .inl (cI, 80, .inl (upd ns l0 (nI n1)))), (m3, .inl (cI, 80, .inl (upd ds l0 (nI (a0 + 1))))), (m4, .inl (cI, 80, .inl (upd ss l0 (fMix (fMix (fMix (jBef ss l0) 1) (nI n1)) (nI (a0 + 1))))))]) hw [0, 4, 5, 6, 7] rfl rfl (x_runV (n := 3) (rest := []) (As := [.int 1, .int (nI n1), .int (nI (a0 + 1))]) S hw (m_write l D cI cZ cV g mP mS mK mL mT mZ mD mH mG mC m1 m2 m3 m4 mB mX mY (nI (n + 0)) (nI (n1 + 1)) cuts siz ctr ks ns ds ss l0 1 (nI n1) (nI (a0 + 1)) hc _) xh_3_6 xh_3_3 xh_3_5 xsel_MO_write xh_1_6 (by decide +kernel) ⟨by decide, by decide⟩ [0, 4, 5, 6, 7] rfl rfl (ci := 6) (q0 := 0) rfl rfl rfl hl.1 rfl (Nat.le_of_ble_eq_true rfl) dMO_rotate_114 ⟨by decide, by decide⟩) rfl rfl (fun H locs hw => ?_)
  refine lv_aload_n hx hb dMO_rotate_117 rfl (lv_at hl 0 rfl) ?_
  refine x_get S hw (C := RMO) (T := TMO) (N := 23) inMO 0 rfl rfl 2 (by decide) xh_2_147 (v := .int (nI (n1 + 1))) rfl dMO_rotate_118 ?_
  refine lv_iconst (v := 1) hx hb dMO_rotate_121 (by decide) ?_
  refine lv_isub hx hb dMO_rotate_122 ?_
  refine x_topi (y := nI n1) (nI_pred n1) ?_
  exact x_iret S hr hlk hw (by decide) (by decide) (⟨rfl, rfl⟩) dMO_rotate_123

set_option maxHeartbeats 4000000 in
set_option maxRecDepth 100000 in
theorem m_des_no (l : Launch) (D : va_G) (cI cZ cV : ClassId) (g : Nat) (mP : Nat) (mS : Nat) (mK : Nat) (mL : Nat) (mT : Nat) (mZ : Nat) (mD : Nat) (mH : Nat) (mG : Nat) (mC : Nat) (m1 : Nat) (m2 : Nat) (m3 : Nat) (m4 : Nat) (mB : Nat) (mX : Nat) (mY : Nat) (cash : Int32) (cnt : Int32) (cuts : Int32) (lin : Int32) (siz : Int32) (ctr : Int32) (v : Int32) (hv : v < 0 ∨ cnt ≤ v) : XI l yMO_destroy cMO_destroy 3 (some .int) D (xT3 cI cZ cV) 1 0 0 [.ref g, .int v] [(g, .inr (6, [.ref mP, .int cash, .int cnt, .ref mS, .ref mK, .ref mL, .ref mT, .ref mZ, .ref mD, .ref mH, .ref mG, .ref mC, .int cuts, .int lin, .ref m1, .ref m2, .ref m3, .ref m4, .ref mB, .int siz, .int ctr, .ref mX, .ref mY]))] (fun r u => r = -1 ∧ u = [(g, .inr (6, [.ref mP, .int cash, .int cnt, .ref mS, .ref mK, .ref mL, .ref mT, .ref mZ, .ref mD, .ref mH, .ref mG, .ref mC, .int cuts, .int lin, .ref m1, .ref m2, .ref m3, .ref m4, .ref mB, .int siz, .int ctr, .ref mX, .ref mY]))]) := by
  intro sz
  refine x_ofW (Qc := fun A => va_Qi _ (xB D A) A) sz (by decide) (Nat.le_of_ble_eq_true rfl) ?_
  intro p e s m args below meth c A ls S hr hlk hnm hw hl
  obtain ⟨hx, hb, hml, hown, hts⟩ := id S
  have hl : lv_has ls 3 [(0, .ref g), (1, .int v)] := hl
  refine lv_aload_n hx hb dMO_destroy_0 rfl (lv_at hl 0 rfl) ?_
  refine lv_iload_n hx hb dMO_destroy_1 rfl (lv_at hl 1 rfl) ?_
  refine x_calliD (ws' := [(g, .inr (6, [.ref mP, .int cash, .int cnt, .ref mS, .ref mK, .ref mL, .ref mT, .ref mZ, .ref mD, .ref mH, .ref mG, .ref mC, .int cuts, .int lin, .ref m1, .ref m2, .ref m3, .ref m4, .ref mB, .int siz, .int ctr, .ref mX, .ref mY]))]) hw [0] rfl rfl (x_runV (n := 1) (rest := []) (As := [.int v]) S hw (m_none_y l D cI cZ cV g mP mS mK mL mT mZ mD mH mG mC m1 m2 m3 m4 mB mX mY cash cnt cuts lin siz ctr v hv _) xh_3_19 xh_3_16 xh_3_18 xsel_MO_none xh_1_6 (by decide +kernel) ⟨by decide, by decide⟩ [0] rfl rfl (ci := 6) (q0 := 0) rfl rfl rfl hl.1 rfl (Nat.le_of_ble_eq_true rfl) dMO_destroy_2 ⟨by decide, by decide⟩) rfl rfl (fun H locs hw => ?_)
  refine lv_if_eq (tgt := 10) hx hb dMO_destroy_5 (by decide) (fun h5 => absurd h5 (by decide)) (fun h5 => ?_)
  refine lv_iconst (v := (-1)) hx hb dMO_destroy_8 (by decide) ?_
  exact x_iret S hr hlk hw (by decide) (by decide) (⟨rfl, rfl⟩) dMO_destroy_9

set_option maxHeartbeats 4000000 in
set_option maxRecDepth 100000 in
theorem m_des_gone (l : Launch) (D : va_G) (cI cZ cV : ClassId) (g : Nat) (mP : Nat) (mS : Nat) (mK : Nat) (mL : Nat) (mT : Nat) (mZ : Nat) (mD : Nat) (mH : Nat) (mG : Nat) (mC : Nat) (m1 : Nat) (m2 : Nat) (m3 : Nat) (m4 : Nat) (mB : Nat) (mX : Nat) (mY : Nat) (cash : Int32) (cuts : Int32) (lin : Int32) (siz : Int32) (ctr : Int32) (n1 : Nat) (k0 : Nat) (st : Nat → Int32) (hk : k0 < n1 ∧ n1 ≤ 8) (hs : st k0 = 3) : XI l yMO_destroy cMO_destroy 3 (some .int) D (xT3 cI cZ cV) 1 0 0 [.ref g, .int (nI k0)] [(g, .inr (6, [.ref mP, .int cash, .int (nI n1), .ref mS, .ref mK, .ref mL, .ref mT, .ref mZ, .ref mD, .ref mH, .ref mG, .ref mC, .int cuts, .int lin, .ref m1, .ref m2, .ref m3, .ref m4, .ref mB, .int siz, .int ctr, .ref mX, .ref mY])), (mS, .inl (cI, 8, .inl st))] (fun r u => r = -6 ∧ u = [(g, .inr (6, [.ref mP, .int cash, .int (nI n1), .ref mS, .ref mK, .ref mL, .ref mT, .ref mZ, .ref mD, .ref mH, .ref mG, .ref mC, .int cuts, .int lin, .ref m1, .ref m2, .ref m3, .ref m4, .ref mB, .int siz, .int ctr, .ref mX, .ref mY])), (mS, .inl (cI, 8, .inl st))]) := by
  intro sz
  refine x_ofW (Qc := fun A => va_Qi _ (xB D A) A) sz (by decide) (Nat.le_of_ble_eq_true rfl) ?_
  intro p e s m args below meth c A ls S hr hlk hnm hw hl
  obtain ⟨hx, hb, hml, hown, hts⟩ := id S
  have hl : lv_has ls 3 [(0, .ref g), (1, .int (nI k0))] := hl
  refine lv_aload_n hx hb dMO_destroy_0 rfl (lv_at hl 0 rfl) ?_
  refine lv_iload_n hx hb dMO_destroy_1 rfl (lv_at hl 1 rfl) ?_
  refine x_calliD (ws' := [(g, .inr (6, [.ref mP, .int cash, .int (nI n1), .ref mS, .ref mK, .ref mL, .ref mT, .ref mZ, .ref mD, .ref mH, .ref mG, .ref mC, .int cuts, .int lin, .ref m1, .ref m2, .ref m3, .ref m4, .ref mB, .int siz, .int ctr, .ref mX, .ref mY])), (mS, .inl (cI, 8, .inl st))]) hw [0] rfl rfl (x_runV (n := 1) (rest := []) (As := [.int (nI k0)]) S hw (m_none_n l D cI cZ cV g mP mS mK mL mT mZ mD mH mG mC m1 m2 m3 m4 mB mX mY cash cuts lin siz ctr n1 k0 hk _) xh_3_19 xh_3_16 xh_3_18 xsel_MO_none xh_1_6 (by decide +kernel) ⟨by decide, by decide⟩ [0] rfl rfl (ci := 6) (q0 := 0) rfl rfl rfl hl.1 rfl (Nat.le_of_ble_eq_true rfl) dMO_destroy_2 ⟨by decide, by decide⟩) rfl rfl (fun H locs hw => ?_)
  refine lv_if_eq (tgt := 10) hx hb dMO_destroy_5 (by decide) (fun h5 => ?_) (fun h5 => absurd rfl h5)
  refine lv_aload_n hx hb dMO_destroy_10 rfl (lv_at hl 0 rfl) ?_
  refine x_get S hw (C := RMO) (T := TMO) (N := 23) inMO 0 rfl rfl 3 (by decide) xh_2_148 (v := .ref mS) rfl dMO_destroy_11 ?_
  refine lv_iload_n hx hb dMO_destroy_14 rfl (lv_at hl 1 rfl) ?_
  refine x_iald S hw 1 0 rfl rfl (j := k0) (vp_in_nI (by omega) (by omega)) (nI_clamp (by omega)) dMO_destroy_15 ?_
  refine lv_iconst (v := 3) hx hb dMO_destroy_16 (by decide) ?_
  refine lv_icmp_ne (tgt := 23) hx hb dMO_destroy_17 (by decide) (fun h17 => absurd hs h17) (fun h17 => ?_)
  refine lv_bipush (v := (-6)) hx hb dMO_destroy_20 (by decide) ?_
  exact x_iret S hr hlk hw (by decide) (by decide) (⟨rfl, rfl⟩) dMO_destroy_22

set_option maxHeartbeats 4000000 in
set_option maxRecDepth 100000 in
theorem m_des_full (l : Launch) (D : va_G) (cI cZ cV : ClassId) (g : Nat) (mP : Nat) (mS : Nat) (mK : Nat) (mL : Nat) (mT : Nat) (mZ : Nat) (mD : Nat) (mH : Nat) (mG : Nat) (mC : Nat) (m1 : Nat) (m2 : Nat) (m3 : Nat) (m4 : Nat) (mB : Nat) (mX : Nat) (mY : Nat) (cash : Int32) (cuts : Int32) (siz : Int32) (ctr : Int32) (n1 : Nat) (k0 : Nat) (l0 : Nat) (st : Nat → Int32) (hk : k0 < n1 ∧ n1 ≤ 8) (hs : ¬ st k0 = 3) (hc : l0 = 80) : XI l yMO_destroy cMO_destroy 3 (some .int) D (xT3 cI cZ cV) 1 0 0 [.ref g, .int (nI k0)] [(g, .inr (6, [.ref mP, .int cash, .int (nI n1), .ref mS, .ref mK, .ref mL, .ref mT, .ref mZ, .ref mD, .ref mH, .ref mG, .ref mC, .int cuts, .int (nI l0), .ref m1, .ref m2, .ref m3, .ref m4, .ref mB, .int siz, .int ctr, .ref mX, .ref mY])), (mS, .inl (cI, 8, .inl st))] (fun r u => r = -2 ∧ u = [(g, .inr (6, [.ref mP, .int cash, .int (nI n1), .ref mS, .ref mK, .ref mL, .ref mT, .ref mZ, .ref mD, .ref mH, .ref mG, .ref mC, .int cuts, .int (nI l0), .ref m1, .ref m2, .ref m3, .ref m4, .ref mB, .int siz, .int ctr, .ref mX, .ref mY])), (mS, .inl (cI, 8, .inl st))]) := by
  intro sz
  refine x_ofW (Qc := fun A => va_Qi _ (xB D A) A) sz (by decide) (Nat.le_of_ble_eq_true rfl) ?_
  intro p e s m args below meth c A ls S hr hlk hnm hw hl
  obtain ⟨hx, hb, hml, hown, hts⟩ := id S
  have hl : lv_has ls 3 [(0, .ref g), (1, .int (nI k0))] := hl
  refine lv_aload_n hx hb dMO_destroy_0 rfl (lv_at hl 0 rfl) ?_
  refine lv_iload_n hx hb dMO_destroy_1 rfl (lv_at hl 1 rfl) ?_
  refine x_calliD (ws' := [(g, .inr (6, [.ref mP, .int cash, .int (nI n1), .ref mS, .ref mK, .ref mL, .ref mT, .ref mZ, .ref mD, .ref mH, .ref mG, .ref mC, .int cuts, .int (nI l0), .ref m1, .ref m2, .ref m3, .ref m4, .ref mB, .int siz, .int ctr, .ref mX, .ref mY])), (mS, .inl (cI, 8, .inl st))]) hw [0] rfl rfl (x_runV (n := 1) (rest := []) (As := [.int (nI k0)]) S hw (m_none_n l D cI cZ cV g mP mS mK mL mT mZ mD mH mG mC m1 m2 m3 m4 mB mX mY cash cuts (nI l0) siz ctr n1 k0 hk _) xh_3_19 xh_3_16 xh_3_18 xsel_MO_none xh_1_6 (by decide +kernel) ⟨by decide, by decide⟩ [0] rfl rfl (ci := 6) (q0 := 0) rfl rfl rfl hl.1 rfl (Nat.le_of_ble_eq_true rfl) dMO_destroy_2 ⟨by decide, by decide⟩) rfl rfl (fun H locs hw => ?_)
  refine lv_if_eq (tgt := 10) hx hb dMO_destroy_5 (by decide) (fun h5 => ?_) (fun h5 => absurd rfl h5)
  refine lv_aload_n hx hb dMO_destroy_10 rfl (lv_at hl 0 rfl) ?_
  refine x_get S hw (C := RMO) (T := TMO) (N := 23) inMO 0 rfl rfl 3 (by decide) xh_2_148 (v := .ref mS) rfl dMO_destroy_11 ?_
  refine lv_iload_n hx hb dMO_destroy_14 rfl (lv_at hl 1 rfl) ?_
  refine x_iald S hw 1 0 rfl rfl (j := k0) (vp_in_nI (by omega) (by omega)) (nI_clamp (by omega)) dMO_destroy_15 ?_
  refine lv_iconst (v := 3) hx hb dMO_destroy_16 (by decide) ?_
  refine lv_icmp_ne (tgt := 23) hx hb dMO_destroy_17 (by decide) (fun h17 => ?_) (fun h17 => absurd h17 hs)
  refine lv_aload_n hx hb dMO_destroy_23 rfl (lv_at hl 0 rfl) ?_
  refine x_get S hw (C := RMO) (T := TMO) (N := 23) inMO 0 rfl rfl 13 (by decide) xh_2_158 (v := .int (nI l0)) rfl dMO_destroy_24 ?_
  refine lv_bipush (v := 80) hx hb dMO_destroy_27 (by decide) ?_
  refine lv_icmp_ne (tgt := 35) hx hb dMO_destroy_29 (by decide) (fun h29 => absurd (by rw [hc]; rfl) h29) (fun h29 => ?_)
  refine lv_bipush (v := (-2)) hx hb dMO_destroy_32 (by decide) ?_
  exact x_iret S hr hlk hw (by decide) (by decide) (⟨rfl, rfl⟩) dMO_destroy_34

set_option maxHeartbeats 4000000 in
set_option maxRecDepth 100000 in
theorem m_des_ok (l : Launch) (D : va_G) (cI cZ cV : ClassId) (g : Nat) (mP : Nat) (mS : Nat) (mK : Nat) (mL : Nat) (mT : Nat) (mZ : Nat) (mD : Nat) (mH : Nat) (mG : Nat) (mC : Nat) (m1 : Nat) (m2 : Nat) (m3 : Nat) (m4 : Nat) (mB : Nat) (mX : Nat) (mY : Nat) (cash : Int32) (cuts : Int32) (siz : Int32) (ctr : Int32) (n1 : Nat) (k0 : Nat) (l0 : Nat) (st : Nat → Int32) (se : Nat → Int32) (su : Nat → Int32) (tt : Nat → Int32) (zz : Nat → Int32) (gg : Nat → Int32) (ks : Nat → Int32) (ns : Nat → Int32) (ds : Nat → Int32) (ss : Nat → Int32) (hk : k0 < n1 ∧ n1 ≤ 8) (hs : ¬ st k0 = 3) (hc : l0 < 80) : XI l yMO_destroy cMO_destroy 3 (some .int) D (xT3 cI cZ cV) 2 0 0 [.ref g, .int (nI k0)] [(g, .inr (6, [.ref mP, .int cash, .int (nI n1), .ref mS, .ref mK, .ref mL, .ref mT, .ref mZ, .ref mD, .ref mH, .ref mG, .ref mC, .int cuts, .int (nI l0), .ref m1, .ref m2, .ref m3, .ref m4, .ref mB, .int siz, .int ctr, .ref mX, .ref mY])), (mS, .inl (cI, 8, .inl st)), (mK, .inl (cI, 8, .inl se)), (mL, .inl (cZ, 8, .inl su)), (mT, .inl (cI, 8, .inl tt)), (mZ, .inl (cI, 8, .inl zz)), (mG, .inl (cZ, 72, .inl gg)), (m1, .inl (cI, 80, .inl ks)), (m2, .inl (cI, 80, .inl ns)), (m3, .inl (cI, 80, .inl ds)), (m4, .inl (cI, 80, .inl ss))] (fun r u => r = st k0 ∧ u = [(g, .inr (6, [.ref mP, .int cash, .int (nI n1), .ref mS, .ref mK, .ref mL, .ref mT, .ref mZ, .ref mD, .ref mH, .ref mG, .ref mC, .int cuts, .int (nI (l0 + 1)), .ref m1, .ref m2, .ref m3, .ref m4, .ref mB, .int siz, .int ctr, .ref mX, .ref mY])), (mS, .inl (cI, 8, .inl (upd st k0 3))), (mK, .inl (cI, 8, .inl (upd se k0 0))), (mL, .inl (cZ, 8, .inl (upd su k0 0))), (mT, .inl (cI, 8, .inl (upd tt k0 0))), (mZ, .inl (cI, 8, .inl (upd zz k0 0))), (mG, .inl (cZ, 72, .inl (dgF gg k0 9))), (m1, .inl (cI, 80, .inl (upd ks l0 (2)))), (m2, .inl (cI, 80, .inl (upd ns l0 (nI k0)))), (m3, .inl (cI, 80, .inl (upd ds l0 (st k0)))), (m4, .inl (cI, 80, .inl (upd ss l0 (fMix (fMix (fMix (jBef ss l0) (2)) (nI k0)) (st k0)))))]) := by
  intro sz
  refine x_ofW (Qc := fun A => va_Qi _ (xB D A) A) sz (by decide) (Nat.le_of_ble_eq_true rfl) ?_
  intro p e s m args below meth c A ls S hr hlk hnm hw hl
  obtain ⟨hx, hb, hml, hown, hts⟩ := id S
  have hl : lv_has ls 3 [(0, .ref g), (1, .int (nI k0))] := hl
  refine lv_aload_n hx hb dMO_destroy_0 rfl (lv_at hl 0 rfl) ?_
  refine lv_iload_n hx hb dMO_destroy_1 rfl (lv_at hl 1 rfl) ?_
  refine x_calliD (ws' := [(g, .inr (6, [.ref mP, .int cash, .int (nI n1), .ref mS, .ref mK, .ref mL, .ref mT, .ref mZ, .ref mD, .ref mH, .ref mG, .ref mC, .int cuts, .int (nI l0), .ref m1, .ref m2, .ref m3, .ref m4, .ref mB, .int siz, .int ctr, .ref mX, .ref mY])), (mS, .inl (cI, 8, .inl st)), (mK, .inl (cI, 8, .inl se)), (mL, .inl (cZ, 8, .inl su)), (mT, .inl (cI, 8, .inl tt)), (mZ, .inl (cI, 8, .inl zz)), (mG, .inl (cZ, 72, .inl gg)), (m1, .inl (cI, 80, .inl ks)), (m2, .inl (cI, 80, .inl ns)), (m3, .inl (cI, 80, .inl ds)), (m4, .inl (cI, 80, .inl ss))]) hw [0] rfl rfl (x_runV (n := 1) (rest := []) (As := [.int (nI k0)]) S hw (m_none_n l D cI cZ cV g mP mS mK mL mT mZ mD mH mG mC m1 m2 m3 m4 mB mX mY cash cuts (nI l0) siz ctr n1 k0 hk _) xh_3_19 xh_3_16 xh_3_18 xsel_MO_none xh_1_6 (by decide +kernel) ⟨by decide, by decide⟩ [0] rfl rfl (ci := 6) (q0 := 0) rfl rfl rfl hl.1 rfl (Nat.le_of_ble_eq_true rfl) dMO_destroy_2 ⟨by decide, by decide⟩) rfl rfl (fun H locs hw => ?_)
  refine lv_if_eq (tgt := 10) hx hb dMO_destroy_5 (by decide) (fun h5 => ?_) (fun h5 => absurd rfl h5)
  refine lv_aload_n hx hb dMO_destroy_10 rfl (lv_at hl 0 rfl) ?_
  refine x_get S hw (C := RMO) (T := TMO) (N := 23) inMO 0 rfl rfl 3 (by decide) xh_2_148 (v := .ref mS) rfl dMO_destroy_11 ?_
  refine lv_iload_n hx hb dMO_destroy_14 rfl (lv_at hl 1 rfl) ?_
  refine x_iald S hw 1 0 rfl rfl (j := k0) (vp_in_nI (by omega) (by omega)) (nI_clamp (by omega)) dMO_destroy_15 ?_
  refine lv_iconst (v := 3) hx hb dMO_destroy_16 (by decide) ?_
  refine lv_icmp_ne (tgt := 23) hx hb dMO_destroy_17 (by decide) (fun h17 => ?_) (fun h17 => absurd h17 hs)
  refine lv_aload_n hx hb dMO_destroy_23 rfl (lv_at hl 0 rfl) ?_
  refine x_get S hw (C := RMO) (T := TMO) (N := 23) inMO 0 rfl rfl 13 (by decide) xh_2_158 (v := .int (nI l0)) rfl dMO_destroy_24 ?_
  refine lv_bipush (v := 80) hx hb dMO_destroy_27 (by decide) ?_
  refine lv_icmp_ne (tgt := 35) hx hb dMO_destroy_29 (by decide) (fun h29 => ?_) (fun h29 => absurd h29 (fun e => by have := (nI_eq (a := l0) (b := 80) (by omega) (by decide)).mp e; omega))
  refine lv_aload_n hx hb dMO_destroy_35 rfl (lv_at hl 0 rfl) ?_
  refine x_get S hw (C := RMO) (T := TMO) (N := 23) inMO 0 rfl rfl 3 (by decide) xh_2_148 (v := .ref mS) rfl dMO_destroy_36 ?_
  refine lv_iload_n hx hb dMO_destroy_39 rfl (lv_at hl 1 rfl) ?_
  refine x_iald S hw 1 0 rfl rfl (j := k0) (vp_in_nI (by omega) (by omega)) (nI_clamp (by omega)) dMO_destroy_40 ?_
  refine lv_istore_n (lv' := [(2, .int (st k0)), (0, .ref g), (1, .int (nI k0))]) hx hb dMO_destroy_41 rfl hl (by decide) rfl (fun ls hl => ?_)
  refine lv_aload_n hx hb dMO_destroy_42 rfl (lv_at hl 1 rfl) ?_
  refine x_get S hw (C := RMO) (T := TMO) (N := 23) inMO 0 rfl rfl 3 (by decide) xh_2_148 (v := .ref mS) rfl dMO_destroy_43 ?_
  refine lv_iload_n hx hb dMO_destroy_46 rfl (lv_at hl 2 rfl) ?_
  refine lv_iconst (v := 3) hx hb dMO_destroy_47 (by decide) ?_
  refine x_iast S hw 1 0 rfl rfl (j := k0) (vp_in_nI (by omega) (by omega)) (nI_clamp (by omega)) (ws' := [(g, .inr (6, [.ref mP, .int cash, .int (nI n1), .ref mS, .ref mK, .ref mL, .ref mT, .ref mZ, .ref mD, .ref mH, .ref mG, .ref mC, .int cuts, .int (nI l0), .ref m1, .ref m2, .ref m3, .ref m4, .ref mB, .int siz, .int ctr, .ref mX, .ref mY])), (mS, .inl (cI, 8, .inl (upd st k0 3))), (mK, .inl (cI, 8, .inl se)), (mL, .inl (cZ, 8, .inl su)), (mT, .inl (cI, 8, .inl tt)), (mZ, .inl (cI, 8, .inl zz)), (mG, .inl (cZ, 72, .inl gg)), (m1, .inl (cI, 80, .inl ks)), (m2, .inl (cI, 80, .inl ns)), (m3, .inl (cI, 80, .inl ds)), (m4, .inl (cI, 80, .inl ss))]) rfl dMO_destroy_48 (fun H locs hw => ?_)
  refine lv_aload_n hx hb dMO_destroy_49 rfl (lv_at hl 1 rfl) ?_
  refine x_get S hw (C := RMO) (T := TMO) (N := 23) inMO 0 rfl rfl 4 (by decide) xh_2_149 (v := .ref mK) rfl dMO_destroy_50 ?_
  refine lv_iload_n hx hb dMO_destroy_53 rfl (lv_at hl 2 rfl) ?_
  refine lv_iconst (v := 0) hx hb dMO_destroy_54 (by decide) ?_
  refine x_iast S hw 2 0 rfl rfl (j := k0) (vp_in_nI (by omega) (by omega)) (nI_clamp (by omega)) (ws' := [(g, .inr (6, [.ref mP, .int cash, .int (nI n1), .ref mS, .ref mK, .ref mL, .ref mT, .ref mZ, .ref mD, .ref mH, .ref mG, .ref mC, .int cuts, .int (nI l0), .ref m1, .ref m2, .ref m3, .ref m4, .ref mB, .int siz, .int ctr, .ref mX, .ref mY])), (mS, .inl (cI, 8, .inl (upd st k0 3))), (mK, .inl (cI, 8, .inl (upd se k0 0))), (mL, .inl (cZ, 8, .inl su)), (mT, .inl (cI, 8, .inl tt)), (mZ, .inl (cI, 8, .inl zz)), (mG, .inl (cZ, 72, .inl gg)), (m1, .inl (cI, 80, .inl ks)), (m2, .inl (cI, 80, .inl ns)), (m3, .inl (cI, 80, .inl ds)), (m4, .inl (cI, 80, .inl ss))]) rfl dMO_destroy_55 (fun H locs hw => ?_)
  refine lv_aload_n hx hb dMO_destroy_56 rfl (lv_at hl 1 rfl) ?_
  refine x_get S hw (C := RMO) (T := TMO) (N := 23) inMO 0 rfl rfl 5 (by decide) xh_2_150 (v := .ref mL) rfl dMO_destroy_57 ?_
  refine lv_iload_n hx hb dMO_destroy_60 rfl (lv_at hl 2 rfl) ?_
  refine lv_iconst (v := 0) hx hb dMO_destroy_61 (by decide) ?_
  refine x_zast S hw 3 1 rfl rfl (j := k0) (vp_in_nI (by omega) (by omega)) (nI_clamp (by omega)) rfl (ws' := [(g, .inr (6, [.ref mP, .int cash, .int (nI n1), .ref mS, .ref mK, .ref mL, .ref mT, .ref mZ, .ref mD, .ref mH, .ref mG, .ref mC, .int cuts, .int (nI l0), .ref m1, .ref m2, .ref m3, .ref m4, .ref mB, .int siz, .int ctr, .ref mX, .ref mY])), (mS, .inl (cI, 8, .inl (upd st k0 3))), (mK, .inl (cI, 8, .inl (upd se k0 0))), (mL, .inl (cZ, 8, .inl (upd su k0 0))), (mT, .inl (cI, 8, .inl tt)), (mZ, .inl (cI, 8, .inl zz)), (mG, .inl (cZ, 72, .inl gg)), (m1, .inl (cI, 80, .inl ks)), (m2, .inl (cI, 80, .inl ns)), (m3, .inl (cI, 80, .inl ds)), (m4, .inl (cI, 80, .inl ss))]) rfl dMO_destroy_62 (fun H locs hw => ?_)
  refine lv_aload_n hx hb dMO_destroy_63 rfl (lv_at hl 1 rfl) ?_
  refine x_get S hw (C := RMO) (T := TMO) (N := 23) inMO 0 rfl rfl 6 (by decide) xh_2_151 (v := .ref mT) rfl dMO_destroy_64 ?_
  refine lv_iload_n hx hb dMO_destroy_67 rfl (lv_at hl 2 rfl) ?_
  refine lv_iconst (v := 0) hx hb dMO_destroy_68 (by decide) ?_
  refine x_iast S hw 4 0 rfl rfl (j := k0) (vp_in_nI (by omega) (by omega)) (nI_clamp (by omega)) (ws' := [(g, .inr (6, [.ref mP, .int cash, .int (nI n1), .ref mS, .ref mK, .ref mL, .ref mT, .ref mZ, .ref mD, .ref mH, .ref mG, .ref mC, .int cuts, .int (nI l0), .ref m1, .ref m2, .ref m3, .ref m4, .ref mB, .int siz, .int ctr, .ref mX, .ref mY])), (mS, .inl (cI, 8, .inl (upd st k0 3))), (mK, .inl (cI, 8, .inl (upd se k0 0))), (mL, .inl (cZ, 8, .inl (upd su k0 0))), (mT, .inl (cI, 8, .inl (upd tt k0 0))), (mZ, .inl (cI, 8, .inl zz)), (mG, .inl (cZ, 72, .inl gg)), (m1, .inl (cI, 80, .inl ks)), (m2, .inl (cI, 80, .inl ns)), (m3, .inl (cI, 80, .inl ds)), (m4, .inl (cI, 80, .inl ss))]) rfl dMO_destroy_69 (fun H locs hw => ?_)
  refine lv_aload_n hx hb dMO_destroy_70 rfl (lv_at hl 1 rfl) ?_
  refine x_get S hw (C := RMO) (T := TMO) (N := 23) inMO 0 rfl rfl 7 (by decide) xh_2_152 (v := .ref mZ) rfl dMO_destroy_71 ?_
  refine lv_iload_n hx hb dMO_destroy_74 rfl (lv_at hl 2 rfl) ?_
  refine lv_iconst (v := 0) hx hb dMO_destroy_75 (by decide) ?_
  refine x_iast S hw 5 0 rfl rfl (j := k0) (vp_in_nI (by omega) (by omega)) (nI_clamp (by omega)) (ws' := [(g, .inr (6, [.ref mP, .int cash, .int (nI n1), .ref mS, .ref mK, .ref mL, .ref mT, .ref mZ, .ref mD, .ref mH, .ref mG, .ref mC, .int cuts, .int (nI l0), .ref m1, .ref m2, .ref m3, .ref m4, .ref mB, .int siz, .int ctr, .ref mX, .ref mY])), (mS, .inl (cI, 8, .inl (upd st k0 3))), (mK, .inl (cI, 8, .inl (upd se k0 0))), (mL, .inl (cZ, 8, .inl (upd su k0 0))), (mT, .inl (cI, 8, .inl (upd tt k0 0))), (mZ, .inl (cI, 8, .inl (upd zz k0 0))), (mG, .inl (cZ, 72, .inl gg)), (m1, .inl (cI, 80, .inl ks)), (m2, .inl (cI, 80, .inl ns)), (m3, .inl (cI, 80, .inl ds)), (m4, .inl (cI, 80, .inl ss))]) rfl dMO_destroy_76 (fun H locs hw => ?_)
  refine lv_aload_n hx hb dMO_destroy_77 rfl (lv_at hl 1 rfl) ?_
  refine lv_iload_n hx hb dMO_destroy_78 rfl (lv_at hl 2 rfl) ?_
  refine x_callvD (ws' := [(g, .inr (6, [.ref mP, .int cash, .int (nI n1), .ref mS, .ref mK, .ref mL, .ref mT, .ref mZ, .ref mD, .ref mH, .ref mG, .ref mC, .int cuts, .int (nI l0), .ref m1, .ref m2, .ref m3, .ref m4, .ref mB, .int siz, .int ctr, .ref mX, .ref mY])), (mS, .inl (cI, 8, .inl (upd st k0 3))), (mK, .inl (cI, 8, .inl (upd se k0 0))), (mL, .inl (cZ, 8, .inl (upd su k0 0))), (mT, .inl (cI, 8, .inl (upd tt k0 0))), (mZ, .inl (cI, 8, .inl (upd zz k0 0))), (mG, .inl (cZ, 72, .inl (dgF gg k0 9))), (m1, .inl (cI, 80, .inl ks)), (m2, .inl (cI, 80, .inl ns)), (m3, .inl (cI, 80, .inl ds)), (m4, .inl (cI, 80, .inl ss))]) hw [0, 6] rfl rfl (x_runV (n := 1) (rest := []) (As := [.int (nI k0)]) S hw (m_drop l D cI cZ cV g mP mS mK mL mT mZ mD mH mG mC m1 m2 m3 m4 mB mX mY cash (nI n1) cuts (nI l0) siz ctr gg k0 (by omega) _) xh_3_23 xh_3_20 xh_3_22 xsel_MO_dropGiven xh_1_6 (by decide +kernel) ⟨by decide, by decide⟩ [0, 6] rfl rfl (ci := 6) (q0 := 0) rfl rfl rfl hl.1 rfl (Nat.le_of_ble_eq_true rfl) dMO_destroy_79 ⟨by decide, by decide⟩) rfl rfl (fun H locs hw => ?_)
  refine lv_aload_n hx hb dMO_destroy_82 rfl (lv_at hl 1 rfl) ?_
  refine lv_iconst (v := 2) hx hb dMO_destroy_83 (by decide) ?_
  refine lv_iload_n hx hb dMO_destroy_84 rfl (lv_at hl 2 rfl) ?_
  refine lv_iload_n hx hb dMO_destroy_85 rfl (lv_at hl 0 rfl) ?_
  refine x_callvD (ws' := [(g, .inr (6, [.ref mP, .int cash, .int (nI n1), .ref mS, .ref mK, .ref mL, .ref mT, .ref mZ, .ref mD, .ref mH, .ref mG, .ref mC, .int cuts, .int (nI (l0 + 1)), .ref m1, .ref m2, .ref m3, .ref m4, .ref mB, .int siz, .int ctr, .ref mX, .ref mY])), (mS, .inl (cI, 8, .inl (upd st k0 3))), (mK, .inl (cI, 8, .inl (upd se k0 0))), (mL, .inl (cZ, 8, .inl (upd su k0 0))), (mT, .inl (cI, 8, .inl (upd tt k0 0))), (mZ, .inl (cI, 8, .inl (upd zz k0 0))), (mG, .inl (cZ, 72, .inl (dgF gg k0 9))), (m1, .inl (cI, 80, .inl (upd ks l0 2))), (m2, .inl (cI, 80, .inl (upd ns l0 (nI k0)))), (m3, .inl (cI, 80, .inl (upd ds l0 (st k0)))), (m4, .inl (cI, 80, .inl (upd ss l0 (fMix (fMix (fMix (jBef ss l0) 2) (nI k0)) (st k0)))))]) hw [0, 7, 8, 9, 10] rfl rfl (x_runV (n := 3) (rest := []) (As := [.int 2, .int (nI k0), .int (st k0)]) S hw (m_write l D cI cZ cV g mP mS mK mL mT mZ mD mH mG mC m1 m2 m3 m4 mB mX mY cash (nI n1) cuts siz ctr ks ns ds ss l0 2 (nI k0) (st k0) hc _) xh_3_6 xh_3_3 xh_3_5 xsel_MO_write xh_1_6 (by decide +kernel) ⟨by decide, by decide⟩ [0, 7, 8, 9, 10] rfl rfl (ci := 6) (q0 := 0) rfl rfl rfl hl.1 rfl (Nat.le_of_ble_eq_true rfl) dMO_destroy_86 ⟨by decide, by decide⟩) rfl rfl (fun H locs hw => ?_)
  refine lv_iload_n hx hb dMO_destroy_89 rfl (lv_at hl 0 rfl) ?_
  exact x_iret S hr hlk hw (by decide) (by decide) (⟨rfl, rfl⟩) dMO_destroy_90

set_option maxHeartbeats 4000000 in
set_option maxRecDepth 100000 in
theorem m_sha_no (l : Launch) (D : va_G) (cI cZ cV : ClassId) (g : Nat) (mP : Nat) (mS : Nat) (mK : Nat) (mL : Nat) (mT : Nat) (mZ : Nat) (mD : Nat) (mH : Nat) (mG : Nat) (mC : Nat) (m1 : Nat) (m2 : Nat) (m3 : Nat) (m4 : Nat) (mB : Nat) (mX : Nat) (mY : Nat) (cash : Int32) (cnt : Int32) (cuts : Int32) (lin : Int32) (siz : Int32) (ctr : Int32) (i : Int32) (hv : i < 1 ∨ cuts < i) : XI l yMO_share cMO_share 2 (some .int) D (xT3 cI cZ cV) 0 0 0 [.ref g, .int i] [(g, .inr (6, [.ref mP, .int cash, .int cnt, .ref mS, .ref mK, .ref mL, .ref mT, .ref mZ, .ref mD, .ref mH, .ref mG, .ref mC, .int cuts, .int lin, .ref m1, .ref m2, .ref m3, .ref m4, .ref mB, .int siz, .int ctr, .ref mX, .ref mY]))] (fun r u => r = 0 ∧ u = [(g, .inr (6, [.ref mP, .int cash, .int cnt, .ref mS, .ref mK, .ref mL, .ref mT, .ref mZ, .ref mD, .ref mH, .ref mG, .ref mC, .int cuts, .int lin, .ref m1, .ref m2, .ref m3, .ref m4, .ref mB, .int siz, .int ctr, .ref mX, .ref mY]))]) := by
  intro sz
  refine x_ofW (Qc := fun A => va_Qi _ (xB D A) A) sz (by decide) (Nat.le_of_ble_eq_true rfl) ?_
  intro p e s m args below meth c A ls S hr hlk hnm hw hl
  obtain ⟨hx, hb, hml, hown, hts⟩ := id S
  have hl : lv_has ls 2 [(0, .ref g), (1, .int i)] := hl
  refine lv_iload_n hx hb dMO_share_0 rfl (lv_at hl 1 rfl) ?_
  refine lv_iconst (v := 1) hx hb dMO_share_1 (by decide) ?_
  refine lv_icmp_lt (tgt := 13) hx hb dMO_share_2 (by decide) (fun h2 => ?_) (fun h2 => ?_)
  · skip
    refine lv_iconst (v := 0) hx hb dMO_share_13 (by decide) ?_
    refine lv_goto (tgt := 23) hx hb dMO_share_14 (by decide) ?_
    exact x_iret S hr hlk hw (by decide) (by decide) (⟨rfl, rfl⟩) dMO_share_23
  refine lv_iload_n hx hb dMO_share_5 rfl (lv_at hl 1 rfl) ?_
  refine lv_aload_n hx hb dMO_share_6 rfl (lv_at hl 0 rfl) ?_
  refine x_get S hw (C := RMO) (T := TMO) (N := 23) inMO 0 rfl rfl 12 (by decide) xh_2_157 (v := .int cuts) rfl dMO_share_7 ?_
  refine lv_icmp_le (tgt := 17) hx hb dMO_share_10 (by decide) (fun h10 => ?_) (fun h10 => ?_)
  · skip
    exact False.elim (by rcases hv with h | h; exact h2 h; exact Int32.not_lt.mpr h10 h)
  refine lv_iconst (v := 0) hx hb dMO_share_13 (by decide) ?_
  refine lv_goto (tgt := 23) hx hb dMO_share_14 (by decide) ?_
  exact x_iret S hr hlk hw (by decide) (by decide) (⟨rfl, rfl⟩) dMO_share_23

set_option maxHeartbeats 4000000 in
set_option maxRecDepth 100000 in
theorem m_sha_ok (l : Launch) (D : va_G) (cI cZ cV : ClassId) (g : Nat) (mP : Nat) (mS : Nat) (mK : Nat) (mL : Nat) (mT : Nat) (mZ : Nat) (mD : Nat) (mH : Nat) (mG : Nat) (mC : Nat) (m1 : Nat) (m2 : Nat) (m3 : Nat) (m4 : Nat) (mB : Nat) (mX : Nat) (mY : Nat) (cash : Int32) (cnt : Int32) (lin : Int32) (siz : Int32) (ctr : Int32) (ct : Nat → Int32) (n0 : Nat) (j : Nat) (hj : 1 ≤ j ∧ j ≤ n0 ∧ n0 ≤ 8) : XI l yMO_share cMO_share 2 (some .int) D (xT3 cI cZ cV) 0 0 0 [.ref g, .int (nI j)] [(g, .inr (6, [.ref mP, .int cash, .int cnt, .ref mS, .ref mK, .ref mL, .ref mT, .ref mZ, .ref mD, .ref mH, .ref mG, .ref mC, .int (nI n0), .int lin, .ref m1, .ref m2, .ref m3, .ref m4, .ref mB, .int siz, .int ctr, .ref mX, .ref mY])), (mC, .inl (cI, 9, .inl ct))] (fun r u => r = ct j ∧ u = [(g, .inr (6, [.ref mP, .int cash, .int cnt, .ref mS, .ref mK, .ref mL, .ref mT, .ref mZ, .ref mD, .ref mH, .ref mG, .ref mC, .int (nI n0), .int lin, .ref m1, .ref m2, .ref m3, .ref m4, .ref mB, .int siz, .int ctr, .ref mX, .ref mY])), (mC, .inl (cI, 9, .inl ct))]) := by
  intro sz
  refine x_ofW (Qc := fun A => va_Qi _ (xB D A) A) sz (by decide) (Nat.le_of_ble_eq_true rfl) ?_
  intro p e s m args below meth c A ls S hr hlk hnm hw hl
  obtain ⟨hx, hb, hml, hown, hts⟩ := id S
  have hl : lv_has ls 2 [(0, .ref g), (1, .int (nI j))] := hl
  refine lv_iload_n hx hb dMO_share_0 rfl (lv_at hl 1 rfl) ?_
  refine lv_iconst (v := 1) hx hb dMO_share_1 (by decide) ?_
  refine lv_icmp_lt (tgt := 13) hx hb dMO_share_2 (by decide) (fun h2 => absurd h2 (nI_nlt (b := 1) (by omega) (by omega))) (fun h2 => ?_)
  refine lv_iload_n hx hb dMO_share_5 rfl (lv_at hl 1 rfl) ?_
  refine lv_aload_n hx hb dMO_share_6 rfl (lv_at hl 0 rfl) ?_
  refine x_get S hw (C := RMO) (T := TMO) (N := 23) inMO 0 rfl rfl 12 (by decide) xh_2_157 (v := .int (nI n0)) rfl dMO_share_7 ?_
  refine lv_icmp_le (tgt := 17) hx hb dMO_share_10 (by decide) (fun h10 => ?_) (fun h10 => absurd (nI_le (by omega) (by omega)) h10)
  refine lv_aload_n hx hb dMO_share_17 rfl (lv_at hl 0 rfl) ?_
  refine x_get S hw (C := RMO) (T := TMO) (N := 23) inMO 0 rfl rfl 11 (by decide) xh_2_156 (v := .ref mC) rfl dMO_share_18 ?_
  refine lv_iload_n hx hb dMO_share_21 rfl (lv_at hl 1 rfl) ?_
  refine x_iald S hw 1 0 rfl rfl (j := j) (vp_in_nI (by omega) (by omega)) (nI_clamp (by omega)) dMO_share_22 ?_
  exact x_iret S hr hlk hw (by decide) (by decide) (⟨rfl, rfl⟩) dMO_share_23

set_option maxHeartbeats 4000000 in
set_option maxRecDepth 100000 in
theorem m_loc_no (l : Launch) (D : va_G) (cI cZ cV : ClassId) (g : Nat) (mP : Nat) (mS : Nat) (mK : Nat) (mL : Nat) (mT : Nat) (mZ : Nat) (mD : Nat) (mH : Nat) (mG : Nat) (mC : Nat) (m1 : Nat) (m2 : Nat) (m3 : Nat) (m4 : Nat) (mB : Nat) (mX : Nat) (mY : Nat) (cash : Int32) (cnt : Int32) (cuts : Int32) (lin : Int32) (siz : Int32) (ctr : Int32) (v : Int32) (hv : v < 0 ∨ cnt ≤ v) : XI l yMO_lock cMO_lock 2 (some .int) D (xT3 cI cZ cV) 1 0 0 [.ref g, .int v] [(g, .inr (6, [.ref mP, .int cash, .int cnt, .ref mS, .ref mK, .ref mL, .ref mT, .ref mZ, .ref mD, .ref mH, .ref mG, .ref mC, .int cuts, .int lin, .ref m1, .ref m2, .ref m3, .ref m4, .ref mB, .int siz, .int ctr, .ref mX, .ref mY]))] (fun r u => r = -1 ∧ u = [(g, .inr (6, [.ref mP, .int cash, .int cnt, .ref mS, .ref mK, .ref mL, .ref mT, .ref mZ, .ref mD, .ref mH, .ref mG, .ref mC, .int cuts, .int lin, .ref m1, .ref m2, .ref m3, .ref m4, .ref mB, .int siz, .int ctr, .ref mX, .ref mY]))]) := by
  intro sz
  refine x_ofW (Qc := fun A => va_Qi _ (xB D A) A) sz (by decide) (Nat.le_of_ble_eq_true rfl) ?_
  intro p e s m args below meth c A ls S hr hlk hnm hw hl
  obtain ⟨hx, hb, hml, hown, hts⟩ := id S
  have hl : lv_has ls 2 [(0, .ref g), (1, .int v)] := hl
  refine lv_aload_n hx hb dMO_lock_0 rfl (lv_at hl 0 rfl) ?_
  refine lv_iload_n hx hb dMO_lock_1 rfl (lv_at hl 1 rfl) ?_
  refine x_calliD (ws' := [(g, .inr (6, [.ref mP, .int cash, .int cnt, .ref mS, .ref mK, .ref mL, .ref mT, .ref mZ, .ref mD, .ref mH, .ref mG, .ref mC, .int cuts, .int lin, .ref m1, .ref m2, .ref m3, .ref m4, .ref mB, .int siz, .int ctr, .ref mX, .ref mY]))]) hw [0] rfl rfl (x_runV (n := 1) (rest := []) (As := [.int v]) S hw (m_none_y l D cI cZ cV g mP mS mK mL mT mZ mD mH mG mC m1 m2 m3 m4 mB mX mY cash cnt cuts lin siz ctr v hv _) xh_3_19 xh_3_16 xh_3_18 xsel_MO_none xh_1_6 (by decide +kernel) ⟨by decide, by decide⟩ [0] rfl rfl (ci := 6) (q0 := 0) rfl rfl rfl hl.1 rfl (Nat.le_of_ble_eq_true rfl) dMO_lock_2 ⟨by decide, by decide⟩) rfl rfl (fun H locs hw => ?_)
  refine lv_if_eq (tgt := 10) hx hb dMO_lock_5 (by decide) (fun h5 => absurd h5 (by decide)) (fun h5 => ?_)
  refine lv_iconst (v := (-1)) hx hb dMO_lock_8 (by decide) ?_
  exact x_iret S hr hlk hw (by decide) (by decide) (⟨rfl, rfl⟩) dMO_lock_9

set_option maxHeartbeats 4000000 in
set_option maxRecDepth 100000 in
theorem m_loc_gone (l : Launch) (D : va_G) (cI cZ cV : ClassId) (g : Nat) (mP : Nat) (mS : Nat) (mK : Nat) (mL : Nat) (mT : Nat) (mZ : Nat) (mD : Nat) (mH : Nat) (mG : Nat) (mC : Nat) (m1 : Nat) (m2 : Nat) (m3 : Nat) (m4 : Nat) (mB : Nat) (mX : Nat) (mY : Nat) (cash : Int32) (cuts : Int32) (lin : Int32) (siz : Int32) (ctr : Int32) (n1 : Nat) (k0 : Nat) (st : Nat → Int32) (hk : k0 < n1 ∧ n1 ≤ 8) (hs : st k0 = 3) : XI l yMO_lock cMO_lock 2 (some .int) D (xT3 cI cZ cV) 1 0 0 [.ref g, .int (nI k0)] [(g, .inr (6, [.ref mP, .int cash, .int (nI n1), .ref mS, .ref mK, .ref mL, .ref mT, .ref mZ, .ref mD, .ref mH, .ref mG, .ref mC, .int cuts, .int lin, .ref m1, .ref m2, .ref m3, .ref m4, .ref mB, .int siz, .int ctr, .ref mX, .ref mY])), (mS, .inl (cI, 8, .inl st))] (fun r u => r = -6 ∧ u = [(g, .inr (6, [.ref mP, .int cash, .int (nI n1), .ref mS, .ref mK, .ref mL, .ref mT, .ref mZ, .ref mD, .ref mH, .ref mG, .ref mC, .int cuts, .int lin, .ref m1, .ref m2, .ref m3, .ref m4, .ref mB, .int siz, .int ctr, .ref mX, .ref mY])), (mS, .inl (cI, 8, .inl st))]) := by
  intro sz
  refine x_ofW (Qc := fun A => va_Qi _ (xB D A) A) sz (by decide) (Nat.le_of_ble_eq_true rfl) ?_
  intro p e s m args below meth c A ls S hr hlk hnm hw hl
  obtain ⟨hx, hb, hml, hown, hts⟩ := id S
  have hl : lv_has ls 2 [(0, .ref g), (1, .int (nI k0))] := hl
  refine lv_aload_n hx hb dMO_lock_0 rfl (lv_at hl 0 rfl) ?_
  refine lv_iload_n hx hb dMO_lock_1 rfl (lv_at hl 1 rfl) ?_
  refine x_calliD (ws' := [(g, .inr (6, [.ref mP, .int cash, .int (nI n1), .ref mS, .ref mK, .ref mL, .ref mT, .ref mZ, .ref mD, .ref mH, .ref mG, .ref mC, .int cuts, .int lin, .ref m1, .ref m2, .ref m3, .ref m4, .ref mB, .int siz, .int ctr, .ref mX, .ref mY])), (mS, .inl (cI, 8, .inl st))]) hw [0] rfl rfl (x_runV (n := 1) (rest := []) (As := [.int (nI k0)]) S hw (m_none_n l D cI cZ cV g mP mS mK mL mT mZ mD mH mG mC m1 m2 m3 m4 mB mX mY cash cuts lin siz ctr n1 k0 hk _) xh_3_19 xh_3_16 xh_3_18 xsel_MO_none xh_1_6 (by decide +kernel) ⟨by decide, by decide⟩ [0] rfl rfl (ci := 6) (q0 := 0) rfl rfl rfl hl.1 rfl (Nat.le_of_ble_eq_true rfl) dMO_lock_2 ⟨by decide, by decide⟩) rfl rfl (fun H locs hw => ?_)
  refine lv_if_eq (tgt := 10) hx hb dMO_lock_5 (by decide) (fun h5 => ?_) (fun h5 => absurd rfl h5)
  refine lv_aload_n hx hb dMO_lock_10 rfl (lv_at hl 0 rfl) ?_
  refine x_get S hw (C := RMO) (T := TMO) (N := 23) inMO 0 rfl rfl 3 (by decide) xh_2_148 (v := .ref mS) rfl dMO_lock_11 ?_
  refine lv_iload_n hx hb dMO_lock_14 rfl (lv_at hl 1 rfl) ?_
  refine x_iald S hw 1 0 rfl rfl (j := k0) (vp_in_nI (by omega) (by omega)) (nI_clamp (by omega)) dMO_lock_15 ?_
  refine lv_iconst (v := 3) hx hb dMO_lock_16 (by decide) ?_
  refine lv_icmp_ne (tgt := 23) hx hb dMO_lock_17 (by decide) (fun h17 => absurd hs h17) (fun h17 => ?_)
  refine lv_bipush (v := (-6)) hx hb dMO_lock_20 (by decide) ?_
  exact x_iret S hr hlk hw (by decide) (by decide) (⟨rfl, rfl⟩) dMO_lock_22

set_option maxHeartbeats 4000000 in
set_option maxRecDepth 100000 in
theorem m_loc_lock (l : Launch) (D : va_G) (cI cZ cV : ClassId) (g : Nat) (mP : Nat) (mS : Nat) (mK : Nat) (mL : Nat) (mT : Nat) (mZ : Nat) (mD : Nat) (mH : Nat) (mG : Nat) (mC : Nat) (m1 : Nat) (m2 : Nat) (m3 : Nat) (m4 : Nat) (mB : Nat) (mX : Nat) (mY : Nat) (cash : Int32) (cuts : Int32) (lin : Int32) (siz : Int32) (ctr : Int32) (n1 : Nat) (k0 : Nat) (st : Nat → Int32) (su : Nat → Int32) (hk : k0 < n1 ∧ n1 ≤ 8) (hs : ¬ st k0 = 3) (hl9 : ¬ su k0 = 0) : XI l yMO_lock cMO_lock 2 (some .int) D (xT3 cI cZ cV) 1 0 0 [.ref g, .int (nI k0)] [(g, .inr (6, [.ref mP, .int cash, .int (nI n1), .ref mS, .ref mK, .ref mL, .ref mT, .ref mZ, .ref mD, .ref mH, .ref mG, .ref mC, .int cuts, .int lin, .ref m1, .ref m2, .ref m3, .ref m4, .ref mB, .int siz, .int ctr, .ref mX, .ref mY])), (mS, .inl (cI, 8, .inl st)), (mL, .inl (cZ, 8, .inl su))] (fun r u => r = -7 ∧ u = [(g, .inr (6, [.ref mP, .int cash, .int (nI n1), .ref mS, .ref mK, .ref mL, .ref mT, .ref mZ, .ref mD, .ref mH, .ref mG, .ref mC, .int cuts, .int lin, .ref m1, .ref m2, .ref m3, .ref m4, .ref mB, .int siz, .int ctr, .ref mX, .ref mY])), (mS, .inl (cI, 8, .inl st)), (mL, .inl (cZ, 8, .inl su))]) := by
  intro sz
  refine x_ofW (Qc := fun A => va_Qi _ (xB D A) A) sz (by decide) (Nat.le_of_ble_eq_true rfl) ?_
  intro p e s m args below meth c A ls S hr hlk hnm hw hl
  obtain ⟨hx, hb, hml, hown, hts⟩ := id S
  have hl : lv_has ls 2 [(0, .ref g), (1, .int (nI k0))] := hl
  refine lv_aload_n hx hb dMO_lock_0 rfl (lv_at hl 0 rfl) ?_
  refine lv_iload_n hx hb dMO_lock_1 rfl (lv_at hl 1 rfl) ?_
  refine x_calliD (ws' := [(g, .inr (6, [.ref mP, .int cash, .int (nI n1), .ref mS, .ref mK, .ref mL, .ref mT, .ref mZ, .ref mD, .ref mH, .ref mG, .ref mC, .int cuts, .int lin, .ref m1, .ref m2, .ref m3, .ref m4, .ref mB, .int siz, .int ctr, .ref mX, .ref mY])), (mS, .inl (cI, 8, .inl st)), (mL, .inl (cZ, 8, .inl su))]) hw [0] rfl rfl (x_runV (n := 1) (rest := []) (As := [.int (nI k0)]) S hw (m_none_n l D cI cZ cV g mP mS mK mL mT mZ mD mH mG mC m1 m2 m3 m4 mB mX mY cash cuts lin siz ctr n1 k0 hk _) xh_3_19 xh_3_16 xh_3_18 xsel_MO_none xh_1_6 (by decide +kernel) ⟨by decide, by decide⟩ [0] rfl rfl (ci := 6) (q0 := 0) rfl rfl rfl hl.1 rfl (Nat.le_of_ble_eq_true rfl) dMO_lock_2 ⟨by decide, by decide⟩) rfl rfl (fun H locs hw => ?_)
  refine lv_if_eq (tgt := 10) hx hb dMO_lock_5 (by decide) (fun h5 => ?_) (fun h5 => absurd rfl h5)
  refine lv_aload_n hx hb dMO_lock_10 rfl (lv_at hl 0 rfl) ?_
  refine x_get S hw (C := RMO) (T := TMO) (N := 23) inMO 0 rfl rfl 3 (by decide) xh_2_148 (v := .ref mS) rfl dMO_lock_11 ?_
  refine lv_iload_n hx hb dMO_lock_14 rfl (lv_at hl 1 rfl) ?_
  refine x_iald S hw 1 0 rfl rfl (j := k0) (vp_in_nI (by omega) (by omega)) (nI_clamp (by omega)) dMO_lock_15 ?_
  refine lv_iconst (v := 3) hx hb dMO_lock_16 (by decide) ?_
  refine lv_icmp_ne (tgt := 23) hx hb dMO_lock_17 (by decide) (fun h17 => ?_) (fun h17 => absurd h17 hs)
  refine lv_aload_n hx hb dMO_lock_23 rfl (lv_at hl 0 rfl) ?_
  refine x_get S hw (C := RMO) (T := TMO) (N := 23) inMO 0 rfl rfl 5 (by decide) xh_2_150 (v := .ref mL) rfl dMO_lock_24 ?_
  refine lv_iload_n hx hb dMO_lock_27 rfl (lv_at hl 1 rfl) ?_
  refine x_zald S hw 2 1 rfl rfl (j := k0) (vp_in_nI (by omega) (by omega)) (nI_clamp (by omega)) dMO_lock_28 ?_
  refine lv_if_eq (tgt := 35) hx hb dMO_lock_29 (by decide) (fun h29 => absurd h29 hl9) (fun h29 => ?_)
  refine lv_bipush (v := (-7)) hx hb dMO_lock_32 (by decide) ?_
  exact x_iret S hr hlk hw (by decide) (by decide) (⟨rfl, rfl⟩) dMO_lock_34

set_option maxHeartbeats 4000000 in
set_option maxRecDepth 100000 in
theorem m_loc_state (l : Launch) (D : va_G) (cI cZ cV : ClassId) (g : Nat) (mP : Nat) (mS : Nat) (mK : Nat) (mL : Nat) (mT : Nat) (mZ : Nat) (mD : Nat) (mH : Nat) (mG : Nat) (mC : Nat) (m1 : Nat) (m2 : Nat) (m3 : Nat) (m4 : Nat) (mB : Nat) (mX : Nat) (mY : Nat) (cash : Int32) (cuts : Int32) (lin : Int32) (siz : Int32) (ctr : Int32) (n1 : Nat) (k0 : Nat) (st : Nat → Int32) (su : Nat → Int32) (tt : Nat → Int32) (hk : k0 < n1 ∧ n1 ≤ 8) (hs : ¬ st k0 = 3) (hl9 : su k0 = 0) (ht : tt k0 = 0) : XI l yMO_lock cMO_lock 2 (some .int) D (xT3 cI cZ cV) 1 0 0 [.ref g, .int (nI k0)] [(g, .inr (6, [.ref mP, .int cash, .int (nI n1), .ref mS, .ref mK, .ref mL, .ref mT, .ref mZ, .ref mD, .ref mH, .ref mG, .ref mC, .int cuts, .int lin, .ref m1, .ref m2, .ref m3, .ref m4, .ref mB, .int siz, .int ctr, .ref mX, .ref mY])), (mS, .inl (cI, 8, .inl st)), (mL, .inl (cZ, 8, .inl su)), (mT, .inl (cI, 8, .inl tt))] (fun r u => r = -4 ∧ u = [(g, .inr (6, [.ref mP, .int cash, .int (nI n1), .ref mS, .ref mK, .ref mL, .ref mT, .ref mZ, .ref mD, .ref mH, .ref mG, .ref mC, .int cuts, .int lin, .ref m1, .ref m2, .ref m3, .ref m4, .ref mB, .int siz, .int ctr, .ref mX, .ref mY])), (mS, .inl (cI, 8, .inl st)), (mL, .inl (cZ, 8, .inl su)), (mT, .inl (cI, 8, .inl tt))]) := by
  intro sz
  refine x_ofW (Qc := fun A => va_Qi _ (xB D A) A) sz (by decide) (Nat.le_of_ble_eq_true rfl) ?_
  intro p e s m args below meth c A ls S hr hlk hnm hw hl
  obtain ⟨hx, hb, hml, hown, hts⟩ := id S
  have hl : lv_has ls 2 [(0, .ref g), (1, .int (nI k0))] := hl
  refine lv_aload_n hx hb dMO_lock_0 rfl (lv_at hl 0 rfl) ?_
  refine lv_iload_n hx hb dMO_lock_1 rfl (lv_at hl 1 rfl) ?_
  refine x_calliD (ws' := [(g, .inr (6, [.ref mP, .int cash, .int (nI n1), .ref mS, .ref mK, .ref mL, .ref mT, .ref mZ, .ref mD, .ref mH, .ref mG, .ref mC, .int cuts, .int lin, .ref m1, .ref m2, .ref m3, .ref m4, .ref mB, .int siz, .int ctr, .ref mX, .ref mY])), (mS, .inl (cI, 8, .inl st)), (mL, .inl (cZ, 8, .inl su)), (mT, .inl (cI, 8, .inl tt))]) hw [0] rfl rfl (x_runV (n := 1) (rest := []) (As := [.int (nI k0)]) S hw (m_none_n l D cI cZ cV g mP mS mK mL mT mZ mD mH mG mC m1 m2 m3 m4 mB mX mY cash cuts lin siz ctr n1 k0 hk _) xh_3_19 xh_3_16 xh_3_18 xsel_MO_none xh_1_6 (by decide +kernel) ⟨by decide, by decide⟩ [0] rfl rfl (ci := 6) (q0 := 0) rfl rfl rfl hl.1 rfl (Nat.le_of_ble_eq_true rfl) dMO_lock_2 ⟨by decide, by decide⟩) rfl rfl (fun H locs hw => ?_)
  refine lv_if_eq (tgt := 10) hx hb dMO_lock_5 (by decide) (fun h5 => ?_) (fun h5 => absurd rfl h5)
  refine lv_aload_n hx hb dMO_lock_10 rfl (lv_at hl 0 rfl) ?_
  refine x_get S hw (C := RMO) (T := TMO) (N := 23) inMO 0 rfl rfl 3 (by decide) xh_2_148 (v := .ref mS) rfl dMO_lock_11 ?_
  refine lv_iload_n hx hb dMO_lock_14 rfl (lv_at hl 1 rfl) ?_
  refine x_iald S hw 1 0 rfl rfl (j := k0) (vp_in_nI (by omega) (by omega)) (nI_clamp (by omega)) dMO_lock_15 ?_
  refine lv_iconst (v := 3) hx hb dMO_lock_16 (by decide) ?_
  refine lv_icmp_ne (tgt := 23) hx hb dMO_lock_17 (by decide) (fun h17 => ?_) (fun h17 => absurd h17 hs)
  refine lv_aload_n hx hb dMO_lock_23 rfl (lv_at hl 0 rfl) ?_
  refine x_get S hw (C := RMO) (T := TMO) (N := 23) inMO 0 rfl rfl 5 (by decide) xh_2_150 (v := .ref mL) rfl dMO_lock_24 ?_
  refine lv_iload_n hx hb dMO_lock_27 rfl (lv_at hl 1 rfl) ?_
  refine x_zald S hw 2 1 rfl rfl (j := k0) (vp_in_nI (by omega) (by omega)) (nI_clamp (by omega)) dMO_lock_28 ?_
  refine lv_if_eq (tgt := 35) hx hb dMO_lock_29 (by decide) (fun h29 => ?_) (fun h29 => absurd hl9 h29)
  refine lv_aload_n hx hb dMO_lock_35 rfl (lv_at hl 0 rfl) ?_
  refine x_get S hw (C := RMO) (T := TMO) (N := 23) inMO 0 rfl rfl 6 (by decide) xh_2_151 (v := .ref mT) rfl dMO_lock_36 ?_
  refine lv_iload_n hx hb dMO_lock_39 rfl (lv_at hl 1 rfl) ?_
  refine x_iald S hw 3 0 rfl rfl (j := k0) (vp_in_nI (by omega) (by omega)) (nI_clamp (by omega)) dMO_lock_40 ?_
  refine lv_if_ne (tgt := 47) hx hb dMO_lock_41 (by decide) (fun h41 => absurd ht h41) (fun h41 => ?_)
  refine lv_bipush (v := (-4)) hx hb dMO_lock_44 (by decide) ?_
  exact x_iret S hr hlk hw (by decide) (by decide) (⟨rfl, rfl⟩) dMO_lock_46

set_option maxHeartbeats 4000000 in
set_option maxRecDepth 100000 in
theorem m_loc_full (l : Launch) (D : va_G) (cI cZ cV : ClassId) (g : Nat) (mP : Nat) (mS : Nat) (mK : Nat) (mL : Nat) (mT : Nat) (mZ : Nat) (mD : Nat) (mH : Nat) (mG : Nat) (mC : Nat) (m1 : Nat) (m2 : Nat) (m3 : Nat) (m4 : Nat) (mB : Nat) (mX : Nat) (mY : Nat) (cash : Int32) (cuts : Int32) (siz : Int32) (ctr : Int32) (n1 : Nat) (k0 : Nat) (l0 : Nat) (st : Nat → Int32) (su : Nat → Int32) (tt : Nat → Int32) (hk : k0 < n1 ∧ n1 ≤ 8) (hs : ¬ st k0 = 3) (hl9 : su k0 = 0) (ht : ¬ tt k0 = 0) (hc : l0 = 80) : XI l yMO_lock cMO_lock 2 (some .int) D (xT3 cI cZ cV) 1 0 0 [.ref g, .int (nI k0)] [(g, .inr (6, [.ref mP, .int cash, .int (nI n1), .ref mS, .ref mK, .ref mL, .ref mT, .ref mZ, .ref mD, .ref mH, .ref mG, .ref mC, .int cuts, .int (nI l0), .ref m1, .ref m2, .ref m3, .ref m4, .ref mB, .int siz, .int ctr, .ref mX, .ref mY])), (mS, .inl (cI, 8, .inl st)), (mL, .inl (cZ, 8, .inl su)), (mT, .inl (cI, 8, .inl tt))] (fun r u => r = -2 ∧ u = [(g, .inr (6, [.ref mP, .int cash, .int (nI n1), .ref mS, .ref mK, .ref mL, .ref mT, .ref mZ, .ref mD, .ref mH, .ref mG, .ref mC, .int cuts, .int (nI l0), .ref m1, .ref m2, .ref m3, .ref m4, .ref mB, .int siz, .int ctr, .ref mX, .ref mY])), (mS, .inl (cI, 8, .inl st)), (mL, .inl (cZ, 8, .inl su)), (mT, .inl (cI, 8, .inl tt))]) := by
  intro sz
  refine x_ofW (Qc := fun A => va_Qi _ (xB D A) A) sz (by decide) (Nat.le_of_ble_eq_true rfl) ?_
  intro p e s m args below meth c A ls S hr hlk hnm hw hl
  obtain ⟨hx, hb, hml, hown, hts⟩ := id S
  have hl : lv_has ls 2 [(0, .ref g), (1, .int (nI k0))] := hl
  refine lv_aload_n hx hb dMO_lock_0 rfl (lv_at hl 0 rfl) ?_
  refine lv_iload_n hx hb dMO_lock_1 rfl (lv_at hl 1 rfl) ?_
  refine x_calliD (ws' := [(g, .inr (6, [.ref mP, .int cash, .int (nI n1), .ref mS, .ref mK, .ref mL, .ref mT, .ref mZ, .ref mD, .ref mH, .ref mG, .ref mC, .int cuts, .int (nI l0), .ref m1, .ref m2, .ref m3, .ref m4, .ref mB, .int siz, .int ctr, .ref mX, .ref mY])), (mS, .inl (cI, 8, .inl st)), (mL, .inl (cZ, 8, .inl su)), (mT, .inl (cI, 8, .inl tt))]) hw [0] rfl rfl (x_runV (n := 1) (rest := []) (As := [.int (nI k0)]) S hw (m_none_n l D cI cZ cV g mP mS mK mL mT mZ mD mH mG mC m1 m2 m3 m4 mB mX mY cash cuts (nI l0) siz ctr n1 k0 hk _) xh_3_19 xh_3_16 xh_3_18 xsel_MO_none xh_1_6 (by decide +kernel) ⟨by decide, by decide⟩ [0] rfl rfl (ci := 6) (q0 := 0) rfl rfl rfl hl.1 rfl (Nat.le_of_ble_eq_true rfl) dMO_lock_2 ⟨by decide, by decide⟩) rfl rfl (fun H locs hw => ?_)
  refine lv_if_eq (tgt := 10) hx hb dMO_lock_5 (by decide) (fun h5 => ?_) (fun h5 => absurd rfl h5)
  refine lv_aload_n hx hb dMO_lock_10 rfl (lv_at hl 0 rfl) ?_
  refine x_get S hw (C := RMO) (T := TMO) (N := 23) inMO 0 rfl rfl 3 (by decide) xh_2_148 (v := .ref mS) rfl dMO_lock_11 ?_
  refine lv_iload_n hx hb dMO_lock_14 rfl (lv_at hl 1 rfl) ?_
  refine x_iald S hw 1 0 rfl rfl (j := k0) (vp_in_nI (by omega) (by omega)) (nI_clamp (by omega)) dMO_lock_15 ?_
  refine lv_iconst (v := 3) hx hb dMO_lock_16 (by decide) ?_
  refine lv_icmp_ne (tgt := 23) hx hb dMO_lock_17 (by decide) (fun h17 => ?_) (fun h17 => absurd h17 hs)
  refine lv_aload_n hx hb dMO_lock_23 rfl (lv_at hl 0 rfl) ?_
  refine x_get S hw (C := RMO) (T := TMO) (N := 23) inMO 0 rfl rfl 5 (by decide) xh_2_150 (v := .ref mL) rfl dMO_lock_24 ?_
  refine lv_iload_n hx hb dMO_lock_27 rfl (lv_at hl 1 rfl) ?_
  refine x_zald S hw 2 1 rfl rfl (j := k0) (vp_in_nI (by omega) (by omega)) (nI_clamp (by omega)) dMO_lock_28 ?_
  refine lv_if_eq (tgt := 35) hx hb dMO_lock_29 (by decide) (fun h29 => ?_) (fun h29 => absurd hl9 h29)
  refine lv_aload_n hx hb dMO_lock_35 rfl (lv_at hl 0 rfl) ?_
  refine x_get S hw (C := RMO) (T := TMO) (N := 23) inMO 0 rfl rfl 6 (by decide) xh_2_151 (v := .ref mT) rfl dMO_lock_36 ?_
  refine lv_iload_n hx hb dMO_lock_39 rfl (lv_at hl 1 rfl) ?_
  refine x_iald S hw 3 0 rfl rfl (j := k0) (vp_in_nI (by omega) (by omega)) (nI_clamp (by omega)) dMO_lock_40 ?_
  refine lv_if_ne (tgt := 47) hx hb dMO_lock_41 (by decide) (fun h41 => ?_) (fun h41 => absurd h41 ht)
  refine lv_aload_n hx hb dMO_lock_47 rfl (lv_at hl 0 rfl) ?_
  refine x_get S hw (C := RMO) (T := TMO) (N := 23) inMO 0 rfl rfl 13 (by decide) xh_2_158 (v := .int (nI l0)) rfl dMO_lock_48 ?_
  refine lv_bipush (v := 80) hx hb dMO_lock_51 (by decide) ?_
  refine lv_icmp_ne (tgt := 59) hx hb dMO_lock_53 (by decide) (fun h53 => absurd (by rw [hc]; rfl) h53) (fun h53 => ?_)
  refine lv_bipush (v := (-2)) hx hb dMO_lock_56 (by decide) ?_
  exact x_iret S hr hlk hw (by decide) (by decide) (⟨rfl, rfl⟩) dMO_lock_58

set_option maxHeartbeats 4000000 in
set_option maxRecDepth 100000 in
theorem m_loc_ok (l : Launch) (D : va_G) (cI cZ cV : ClassId) (g : Nat) (mP : Nat) (mS : Nat) (mK : Nat) (mL : Nat) (mT : Nat) (mZ : Nat) (mD : Nat) (mH : Nat) (mG : Nat) (mC : Nat) (m1 : Nat) (m2 : Nat) (m3 : Nat) (m4 : Nat) (mB : Nat) (mX : Nat) (mY : Nat) (cash : Int32) (cuts : Int32) (siz : Int32) (ctr : Int32) (n1 : Nat) (k0 : Nat) (l0 : Nat) (st : Nat → Int32) (se : Nat → Int32) (su : Nat → Int32) (tt : Nat → Int32) (gg : Nat → Int32) (ks : Nat → Int32) (ns : Nat → Int32) (ds : Nat → Int32) (ss : Nat → Int32) (hk : k0 < n1 ∧ n1 ≤ 8) (hs : ¬ st k0 = 3) (hl9 : su k0 = 0) (ht : ¬ tt k0 = 0) (hc : l0 < 80) : XI l yMO_lock cMO_lock 2 (some .int) D (xT3 cI cZ cV) 2 0 0 [.ref g, .int (nI k0)] [(g, .inr (6, [.ref mP, .int cash, .int (nI n1), .ref mS, .ref mK, .ref mL, .ref mT, .ref mZ, .ref mD, .ref mH, .ref mG, .ref mC, .int cuts, .int (nI l0), .ref m1, .ref m2, .ref m3, .ref m4, .ref mB, .int siz, .int ctr, .ref mX, .ref mY])), (mS, .inl (cI, 8, .inl st)), (mK, .inl (cI, 8, .inl se)), (mL, .inl (cZ, 8, .inl su)), (mT, .inl (cI, 8, .inl tt)), (mG, .inl (cZ, 72, .inl gg)), (m1, .inl (cI, 80, .inl ks)), (m2, .inl (cI, 80, .inl ns)), (m3, .inl (cI, 80, .inl ds)), (m4, .inl (cI, 80, .inl ss))] (fun r u => r = tt k0 ∧ u = [(g, .inr (6, [.ref mP, .int cash, .int (nI n1), .ref mS, .ref mK, .ref mL, .ref mT, .ref mZ, .ref mD, .ref mH, .ref mG, .ref mC, .int cuts, .int (nI (l0 + 1)), .ref m1, .ref m2, .ref m3, .ref m4, .ref mB, .int siz, .int ctr, .ref mX, .ref mY])), (mS, .inl (cI, 8, .inl st)), (mK, .inl (cI, 8, .inl (upd se k0 0))), (mL, .inl (cZ, 8, .inl (upd su k0 1))), (mT, .inl (cI, 8, .inl tt)), (mG, .inl (cZ, 72, .inl (dgF gg k0 9))), (m1, .inl (cI, 80, .inl (upd ks l0 (4)))), (m2, .inl (cI, 80, .inl (upd ns l0 (nI k0)))), (m3, .inl (cI, 80, .inl (upd ds l0 (0)))), (m4, .inl (cI, 80, .inl (upd ss l0 (fMix (fMix (fMix (jBef ss l0) (4)) (nI k0)) (0)))))]) := by
  intro sz
  refine x_ofW (Qc := fun A => va_Qi _ (xB D A) A) sz (by decide) (Nat.le_of_ble_eq_true rfl) ?_
  intro p e s m args below meth c A ls S hr hlk hnm hw hl
  obtain ⟨hx, hb, hml, hown, hts⟩ := id S
  have hl : lv_has ls 2 [(0, .ref g), (1, .int (nI k0))] := hl
  refine lv_aload_n hx hb dMO_lock_0 rfl (lv_at hl 0 rfl) ?_
  refine lv_iload_n hx hb dMO_lock_1 rfl (lv_at hl 1 rfl) ?_
  refine x_calliD (ws' := [(g, .inr (6, [.ref mP, .int cash, .int (nI n1), .ref mS, .ref mK, .ref mL, .ref mT, .ref mZ, .ref mD, .ref mH, .ref mG, .ref mC, .int cuts, .int (nI l0), .ref m1, .ref m2, .ref m3, .ref m4, .ref mB, .int siz, .int ctr, .ref mX, .ref mY])), (mS, .inl (cI, 8, .inl st)), (mK, .inl (cI, 8, .inl se)), (mL, .inl (cZ, 8, .inl su)), (mT, .inl (cI, 8, .inl tt)), (mG, .inl (cZ, 72, .inl gg)), (m1, .inl (cI, 80, .inl ks)), (m2, .inl (cI, 80, .inl ns)), (m3, .inl (cI, 80, .inl ds)), (m4, .inl (cI, 80, .inl ss))]) hw [0] rfl rfl (x_runV (n := 1) (rest := []) (As := [.int (nI k0)]) S hw (m_none_n l D cI cZ cV g mP mS mK mL mT mZ mD mH mG mC m1 m2 m3 m4 mB mX mY cash cuts (nI l0) siz ctr n1 k0 hk _) xh_3_19 xh_3_16 xh_3_18 xsel_MO_none xh_1_6 (by decide +kernel) ⟨by decide, by decide⟩ [0] rfl rfl (ci := 6) (q0 := 0) rfl rfl rfl hl.1 rfl (Nat.le_of_ble_eq_true rfl) dMO_lock_2 ⟨by decide, by decide⟩) rfl rfl (fun H locs hw => ?_)
  refine lv_if_eq (tgt := 10) hx hb dMO_lock_5 (by decide) (fun h5 => ?_) (fun h5 => absurd rfl h5)
  refine lv_aload_n hx hb dMO_lock_10 rfl (lv_at hl 0 rfl) ?_
  refine x_get S hw (C := RMO) (T := TMO) (N := 23) inMO 0 rfl rfl 3 (by decide) xh_2_148 (v := .ref mS) rfl dMO_lock_11 ?_
  refine lv_iload_n hx hb dMO_lock_14 rfl (lv_at hl 1 rfl) ?_
  refine x_iald S hw 1 0 rfl rfl (j := k0) (vp_in_nI (by omega) (by omega)) (nI_clamp (by omega)) dMO_lock_15 ?_
  refine lv_iconst (v := 3) hx hb dMO_lock_16 (by decide) ?_
  refine lv_icmp_ne (tgt := 23) hx hb dMO_lock_17 (by decide) (fun h17 => ?_) (fun h17 => absurd h17 hs)
  refine lv_aload_n hx hb dMO_lock_23 rfl (lv_at hl 0 rfl) ?_
  refine x_get S hw (C := RMO) (T := TMO) (N := 23) inMO 0 rfl rfl 5 (by decide) xh_2_150 (v := .ref mL) rfl dMO_lock_24 ?_
  refine lv_iload_n hx hb dMO_lock_27 rfl (lv_at hl 1 rfl) ?_
  refine x_zald S hw 3 1 rfl rfl (j := k0) (vp_in_nI (by omega) (by omega)) (nI_clamp (by omega)) dMO_lock_28 ?_
  refine lv_if_eq (tgt := 35) hx hb dMO_lock_29 (by decide) (fun h29 => ?_) (fun h29 => absurd hl9 h29)
  refine lv_aload_n hx hb dMO_lock_35 rfl (lv_at hl 0 rfl) ?_
  refine x_get S hw (C := RMO) (T := TMO) (N := 23) inMO 0 rfl rfl 6 (by decide) xh_2_151 (v := .ref mT) rfl dMO_lock_36 ?_
  refine lv_iload_n hx hb dMO_lock_39 rfl (lv_at hl 1 rfl) ?_
  refine x_iald S hw 4 0 rfl rfl (j := k0) (vp_in_nI (by omega) (by omega)) (nI_clamp (by omega)) dMO_lock_40 ?_
  refine lv_if_ne (tgt := 47) hx hb dMO_lock_41 (by decide) (fun h41 => ?_) (fun h41 => absurd h41 ht)
  refine lv_aload_n hx hb dMO_lock_47 rfl (lv_at hl 0 rfl) ?_
  refine x_get S hw (C := RMO) (T := TMO) (N := 23) inMO 0 rfl rfl 13 (by decide) xh_2_158 (v := .int (nI l0)) rfl dMO_lock_48 ?_
  refine lv_bipush (v := 80) hx hb dMO_lock_51 (by decide) ?_
  refine lv_icmp_ne (tgt := 59) hx hb dMO_lock_53 (by decide) (fun h53 => ?_) (fun h53 => absurd h53 (fun e => by have := (nI_eq (a := l0) (b := 80) (by omega) (by decide)).mp e; omega))
  refine lv_aload_n hx hb dMO_lock_59 rfl (lv_at hl 0 rfl) ?_
  refine x_get S hw (C := RMO) (T := TMO) (N := 23) inMO 0 rfl rfl 5 (by decide) xh_2_150 (v := .ref mL) rfl dMO_lock_60 ?_
  refine lv_iload_n hx hb dMO_lock_63 rfl (lv_at hl 1 rfl) ?_
  refine lv_iconst (v := 1) hx hb dMO_lock_64 (by decide) ?_
  refine x_zast S hw 3 1 rfl rfl (j := k0) (vp_in_nI (by omega) (by omega)) (nI_clamp (by omega)) rfl (ws' := [(g, .inr (6, [.ref mP, .int cash, .int (nI n1), .ref mS, .ref mK, .ref mL, .ref mT, .ref mZ, .ref mD, .ref mH, .ref mG, .ref mC, .int cuts, .int (nI l0), .ref m1, .ref m2, .ref m3, .ref m4, .ref mB, .int siz, .int ctr, .ref mX, .ref mY])), (mS, .inl (cI, 8, .inl st)), (mK, .inl (cI, 8, .inl se)), (mL, .inl (cZ, 8, .inl (upd su k0 1))), (mT, .inl (cI, 8, .inl tt)), (mG, .inl (cZ, 72, .inl gg)), (m1, .inl (cI, 80, .inl ks)), (m2, .inl (cI, 80, .inl ns)), (m3, .inl (cI, 80, .inl ds)), (m4, .inl (cI, 80, .inl ss))]) rfl dMO_lock_65 (fun H locs hw => ?_)
  refine lv_aload_n hx hb dMO_lock_66 rfl (lv_at hl 0 rfl) ?_
  refine x_get S hw (C := RMO) (T := TMO) (N := 23) inMO 0 rfl rfl 4 (by decide) xh_2_149 (v := .ref mK) rfl dMO_lock_67 ?_
  refine lv_iload_n hx hb dMO_lock_70 rfl (lv_at hl 1 rfl) ?_
  refine lv_iconst (v := 0) hx hb dMO_lock_71 (by decide) ?_
  refine x_iast S hw 2 0 rfl rfl (j := k0) (vp_in_nI (by omega) (by omega)) (nI_clamp (by omega)) (ws' := [(g, .inr (6, [.ref mP, .int cash, .int (nI n1), .ref mS, .ref mK, .ref mL, .ref mT, .ref mZ, .ref mD, .ref mH, .ref mG, .ref mC, .int cuts, .int (nI l0), .ref m1, .ref m2, .ref m3, .ref m4, .ref mB, .int siz, .int ctr, .ref mX, .ref mY])), (mS, .inl (cI, 8, .inl st)), (mK, .inl (cI, 8, .inl (upd se k0 0))), (mL, .inl (cZ, 8, .inl (upd su k0 1))), (mT, .inl (cI, 8, .inl tt)), (mG, .inl (cZ, 72, .inl gg)), (m1, .inl (cI, 80, .inl ks)), (m2, .inl (cI, 80, .inl ns)), (m3, .inl (cI, 80, .inl ds)), (m4, .inl (cI, 80, .inl ss))]) rfl dMO_lock_72 (fun H locs hw => ?_)
  refine lv_aload_n hx hb dMO_lock_73 rfl (lv_at hl 0 rfl) ?_
  refine lv_iload_n hx hb dMO_lock_74 rfl (lv_at hl 1 rfl) ?_
  refine x_callvD (ws' := [(g, .inr (6, [.ref mP, .int cash, .int (nI n1), .ref mS, .ref mK, .ref mL, .ref mT, .ref mZ, .ref mD, .ref mH, .ref mG, .ref mC, .int cuts, .int (nI l0), .ref m1, .ref m2, .ref m3, .ref m4, .ref mB, .int siz, .int ctr, .ref mX, .ref mY])), (mS, .inl (cI, 8, .inl st)), (mK, .inl (cI, 8, .inl (upd se k0 0))), (mL, .inl (cZ, 8, .inl (upd su k0 1))), (mT, .inl (cI, 8, .inl tt)), (mG, .inl (cZ, 72, .inl (dgF gg k0 9))), (m1, .inl (cI, 80, .inl ks)), (m2, .inl (cI, 80, .inl ns)), (m3, .inl (cI, 80, .inl ds)), (m4, .inl (cI, 80, .inl ss))]) hw [0, 5] rfl rfl (x_runV (n := 1) (rest := []) (As := [.int (nI k0)]) S hw (m_drop l D cI cZ cV g mP mS mK mL mT mZ mD mH mG mC m1 m2 m3 m4 mB mX mY cash (nI n1) cuts (nI l0) siz ctr gg k0 (by omega) _) xh_3_23 xh_3_20 xh_3_22 xsel_MO_dropGiven xh_1_6 (by decide +kernel) ⟨by decide, by decide⟩ [0, 5] rfl rfl (ci := 6) (q0 := 0) rfl rfl rfl hl.1 rfl (Nat.le_of_ble_eq_true rfl) dMO_lock_75 ⟨by decide, by decide⟩) rfl rfl (fun H locs hw => ?_)
  refine lv_aload_n hx hb dMO_lock_78 rfl (lv_at hl 0 rfl) ?_
  refine lv_iconst (v := 4) hx hb dMO_lock_79 (by decide) ?_
  refine lv_iload_n hx hb dMO_lock_80 rfl (lv_at hl 1 rfl) ?_
  refine lv_iconst (v := 0) hx hb dMO_lock_81 (by decide) ?_
  refine x_callvD (ws' := [(g, .inr (6, [.ref mP, .int cash, .int (nI n1), .ref mS, .ref mK, .ref mL, .ref mT, .ref mZ, .ref mD, .ref mH, .ref mG, .ref mC, .int cuts, .int (nI (l0 + 1)), .ref m1, .ref m2, .ref m3, .ref m4, .ref mB, .int siz, .int ctr, .ref mX, .ref mY])), (mS, .inl (cI, 8, .inl st)), (mK, .inl (cI, 8, .inl (upd se k0 0))), (mL, .inl (cZ, 8, .inl (upd su k0 1))), (mT, .inl (cI, 8, .inl tt)), (mG, .inl (cZ, 72, .inl (dgF gg k0 9))), (m1, .inl (cI, 80, .inl (upd ks l0 4))), (m2, .inl (cI, 80, .inl (upd ns l0 (nI k0)))), (m3, .inl (cI, 80, .inl (upd ds l0 0))), (m4, .inl (cI, 80, .inl (upd ss l0 (fMix (fMix (fMix (jBef ss l0) 4) (nI k0)) 0))))]) hw [0, 6, 7, 8, 9] rfl rfl (x_runV (n := 3) (rest := []) (As := [.int 4, .int (nI k0), .int 0]) S hw (m_write l D cI cZ cV g mP mS mK mL mT mZ mD mH mG mC m1 m2 m3 m4 mB mX mY cash (nI n1) cuts siz ctr ks ns ds ss l0 4 (nI k0) 0 hc _) xh_3_6 xh_3_3 xh_3_5 xsel_MO_write xh_1_6 (by decide +kernel) ⟨by decide, by decide⟩ [0, 6, 7, 8, 9] rfl rfl (ci := 6) (q0 := 0) rfl rfl rfl hl.1 rfl (Nat.le_of_ble_eq_true rfl) dMO_lock_82 ⟨by decide, by decide⟩) rfl rfl (fun H locs hw => ?_)
  refine lv_aload_n hx hb dMO_lock_85 rfl (lv_at hl 0 rfl) ?_
  refine x_get S hw (C := RMO) (T := TMO) (N := 23) inMO 0 rfl rfl 6 (by decide) xh_2_151 (v := .ref mT) rfl dMO_lock_86 ?_
  refine lv_iload_n hx hb dMO_lock_89 rfl (lv_at hl 1 rfl) ?_
  refine x_iald S hw 4 0 rfl rfl (j := k0) (vp_in_nI (by omega) (by omega)) (nI_clamp (by omega)) dMO_lock_90 ?_
  exact x_iret S hr hlk hw (by decide) (by decide) (⟨rfl, rfl⟩) dMO_lock_91

set_option maxHeartbeats 4000000 in
set_option maxRecDepth 100000 in
theorem m_giv_no (l : Launch) (D : va_G) (cI cZ cV : ClassId) (g : Nat) (mP : Nat) (mS : Nat) (mK : Nat) (mL : Nat) (mT : Nat) (mZ : Nat) (mD : Nat) (mH : Nat) (mG : Nat) (mC : Nat) (m1 : Nat) (m2 : Nat) (m3 : Nat) (m4 : Nat) (mB : Nat) (mX : Nat) (mY : Nat) (cash : Int32) (cnt : Int32) (cuts : Int32) (lin : Int32) (siz : Int32) (ctr : Int32) (v : Int32) (i : Int32) (x : Int32) (hv : v < 0 ∨ cnt ≤ v) : XI l yMO_give cMO_give 5 (some .int) D (xT3 cI cZ cV) 1 0 0 [.ref g, .int v, .int i, .int x] [(g, .inr (6, [.ref mP, .int cash, .int cnt, .ref mS, .ref mK, .ref mL, .ref mT, .ref mZ, .ref mD, .ref mH, .ref mG, .ref mC, .int cuts, .int lin, .ref m1, .ref m2, .ref m3, .ref m4, .ref mB, .int siz, .int ctr, .ref mX, .ref mY]))] (fun r u => r = -1 ∧ u = [(g, .inr (6, [.ref mP, .int cash, .int cnt, .ref mS, .ref mK, .ref mL, .ref mT, .ref mZ, .ref mD, .ref mH, .ref mG, .ref mC, .int cuts, .int lin, .ref m1, .ref m2, .ref m3, .ref m4, .ref mB, .int siz, .int ctr, .ref mX, .ref mY]))]) := by
  intro sz
  refine x_ofW (Qc := fun A => va_Qi _ (xB D A) A) sz (by decide) (Nat.le_of_ble_eq_true rfl) ?_
  intro p e s m args below meth c A ls S hr hlk hnm hw hl
  obtain ⟨hx, hb, hml, hown, hts⟩ := id S
  have hl : lv_has ls 5 [(0, .ref g), (1, .int v), (2, .int i), (3, .int x)] := hl
  refine lv_aload_n hx hb dMO_give_0 rfl (lv_at hl 0 rfl) ?_
  refine lv_iload_n hx hb dMO_give_1 rfl (lv_at hl 1 rfl) ?_
  refine x_calliD (ws' := [(g, .inr (6, [.ref mP, .int cash, .int cnt, .ref mS, .ref mK, .ref mL, .ref mT, .ref mZ, .ref mD, .ref mH, .ref mG, .ref mC, .int cuts, .int lin, .ref m1, .ref m2, .ref m3, .ref m4, .ref mB, .int siz, .int ctr, .ref mX, .ref mY]))]) hw [0] rfl rfl (x_runV (n := 1) (rest := []) (As := [.int v]) S hw (m_none_y l D cI cZ cV g mP mS mK mL mT mZ mD mH mG mC m1 m2 m3 m4 mB mX mY cash cnt cuts lin siz ctr v hv _) xh_3_19 xh_3_16 xh_3_18 xsel_MO_none xh_1_6 (by decide +kernel) ⟨by decide, by decide⟩ [0] rfl rfl (ci := 6) (q0 := 0) rfl rfl rfl hl.1 rfl (Nat.le_of_ble_eq_true rfl) dMO_give_2 ⟨by decide, by decide⟩) rfl rfl (fun H locs hw => ?_)
  refine lv_if_eq (tgt := 10) hx hb dMO_give_5 (by decide) (fun h5 => absurd h5 (by decide)) (fun h5 => ?_)
  refine lv_iconst (v := (-1)) hx hb dMO_give_8 (by decide) ?_
  exact x_iret S hr hlk hw (by decide) (by decide) (⟨rfl, rfl⟩) dMO_give_9

set_option maxHeartbeats 4000000 in
set_option maxRecDepth 100000 in
theorem m_giv_gone (l : Launch) (D : va_G) (cI cZ cV : ClassId) (g : Nat) (mP : Nat) (mS : Nat) (mK : Nat) (mL : Nat) (mT : Nat) (mZ : Nat) (mD : Nat) (mH : Nat) (mG : Nat) (mC : Nat) (m1 : Nat) (m2 : Nat) (m3 : Nat) (m4 : Nat) (mB : Nat) (mX : Nat) (mY : Nat) (cash : Int32) (cuts : Int32) (lin : Int32) (siz : Int32) (ctr : Int32) (n1 : Nat) (k0 : Nat) (st : Nat → Int32) (i : Int32) (x : Int32) (hk : k0 < n1 ∧ n1 ≤ 8) (hs : st k0 = 3) : XI l yMO_give cMO_give 5 (some .int) D (xT3 cI cZ cV) 1 0 0 [.ref g, .int (nI k0), .int i, .int x] [(g, .inr (6, [.ref mP, .int cash, .int (nI n1), .ref mS, .ref mK, .ref mL, .ref mT, .ref mZ, .ref mD, .ref mH, .ref mG, .ref mC, .int cuts, .int lin, .ref m1, .ref m2, .ref m3, .ref m4, .ref mB, .int siz, .int ctr, .ref mX, .ref mY])), (mS, .inl (cI, 8, .inl st))] (fun r u => r = -6 ∧ u = [(g, .inr (6, [.ref mP, .int cash, .int (nI n1), .ref mS, .ref mK, .ref mL, .ref mT, .ref mZ, .ref mD, .ref mH, .ref mG, .ref mC, .int cuts, .int lin, .ref m1, .ref m2, .ref m3, .ref m4, .ref mB, .int siz, .int ctr, .ref mX, .ref mY])), (mS, .inl (cI, 8, .inl st))]) := by
  intro sz
  refine x_ofW (Qc := fun A => va_Qi _ (xB D A) A) sz (by decide) (Nat.le_of_ble_eq_true rfl) ?_
  intro p e s m args below meth c A ls S hr hlk hnm hw hl
  obtain ⟨hx, hb, hml, hown, hts⟩ := id S
  have hl : lv_has ls 5 [(0, .ref g), (1, .int (nI k0)), (2, .int i), (3, .int x)] := hl
  refine lv_aload_n hx hb dMO_give_0 rfl (lv_at hl 0 rfl) ?_
  refine lv_iload_n hx hb dMO_give_1 rfl (lv_at hl 1 rfl) ?_
  refine x_calliD (ws' := [(g, .inr (6, [.ref mP, .int cash, .int (nI n1), .ref mS, .ref mK, .ref mL, .ref mT, .ref mZ, .ref mD, .ref mH, .ref mG, .ref mC, .int cuts, .int lin, .ref m1, .ref m2, .ref m3, .ref m4, .ref mB, .int siz, .int ctr, .ref mX, .ref mY])), (mS, .inl (cI, 8, .inl st))]) hw [0] rfl rfl (x_runV (n := 1) (rest := []) (As := [.int (nI k0)]) S hw (m_none_n l D cI cZ cV g mP mS mK mL mT mZ mD mH mG mC m1 m2 m3 m4 mB mX mY cash cuts lin siz ctr n1 k0 hk _) xh_3_19 xh_3_16 xh_3_18 xsel_MO_none xh_1_6 (by decide +kernel) ⟨by decide, by decide⟩ [0] rfl rfl (ci := 6) (q0 := 0) rfl rfl rfl hl.1 rfl (Nat.le_of_ble_eq_true rfl) dMO_give_2 ⟨by decide, by decide⟩) rfl rfl (fun H locs hw => ?_)
  refine lv_if_eq (tgt := 10) hx hb dMO_give_5 (by decide) (fun h5 => ?_) (fun h5 => absurd rfl h5)
  refine lv_aload_n hx hb dMO_give_10 rfl (lv_at hl 0 rfl) ?_
  refine x_get S hw (C := RMO) (T := TMO) (N := 23) inMO 0 rfl rfl 3 (by decide) xh_2_148 (v := .ref mS) rfl dMO_give_11 ?_
  refine lv_iload_n hx hb dMO_give_14 rfl (lv_at hl 1 rfl) ?_
  refine x_iald S hw 1 0 rfl rfl (j := k0) (vp_in_nI (by omega) (by omega)) (nI_clamp (by omega)) dMO_give_15 ?_
  refine lv_iconst (v := 3) hx hb dMO_give_16 (by decide) ?_
  refine lv_icmp_ne (tgt := 23) hx hb dMO_give_17 (by decide) (fun h17 => absurd hs h17) (fun h17 => ?_)
  refine lv_bipush (v := (-6)) hx hb dMO_give_20 (by decide) ?_
  exact x_iret S hr hlk hw (by decide) (by decide) (⟨rfl, rfl⟩) dMO_give_22

set_option maxHeartbeats 4000000 in
set_option maxRecDepth 100000 in
theorem m_giv_state (l : Launch) (D : va_G) (cI cZ cV : ClassId) (g : Nat) (mP : Nat) (mS : Nat) (mK : Nat) (mL : Nat) (mT : Nat) (mZ : Nat) (mD : Nat) (mH : Nat) (mG : Nat) (mC : Nat) (m1 : Nat) (m2 : Nat) (m3 : Nat) (m4 : Nat) (mB : Nat) (mX : Nat) (mY : Nat) (cash : Int32) (cuts : Int32) (lin : Int32) (siz : Int32) (ctr : Int32) (n1 : Nat) (k0 : Nat) (st : Nat → Int32) (su : Nat → Int32) (i : Int32) (x : Int32) (hk : k0 < n1 ∧ n1 ≤ 8) (hs : ¬ st k0 = 3) (hl9 : su k0 = 0) : XI l yMO_give cMO_give 5 (some .int) D (xT3 cI cZ cV) 1 0 0 [.ref g, .int (nI k0), .int i, .int x] [(g, .inr (6, [.ref mP, .int cash, .int (nI n1), .ref mS, .ref mK, .ref mL, .ref mT, .ref mZ, .ref mD, .ref mH, .ref mG, .ref mC, .int cuts, .int lin, .ref m1, .ref m2, .ref m3, .ref m4, .ref mB, .int siz, .int ctr, .ref mX, .ref mY])), (mS, .inl (cI, 8, .inl st)), (mL, .inl (cZ, 8, .inl su))] (fun r u => r = -4 ∧ u = [(g, .inr (6, [.ref mP, .int cash, .int (nI n1), .ref mS, .ref mK, .ref mL, .ref mT, .ref mZ, .ref mD, .ref mH, .ref mG, .ref mC, .int cuts, .int lin, .ref m1, .ref m2, .ref m3, .ref m4, .ref mB, .int siz, .int ctr, .ref mX, .ref mY])), (mS, .inl (cI, 8, .inl st)), (mL, .inl (cZ, 8, .inl su))]) := by
  intro sz
  refine x_ofW (Qc := fun A => va_Qi _ (xB D A) A) sz (by decide) (Nat.le_of_ble_eq_true rfl) ?_
  intro p e s m args below meth c A ls S hr hlk hnm hw hl
  obtain ⟨hx, hb, hml, hown, hts⟩ := id S
  have hl : lv_has ls 5 [(0, .ref g), (1, .int (nI k0)), (2, .int i), (3, .int x)] := hl
  refine lv_aload_n hx hb dMO_give_0 rfl (lv_at hl 0 rfl) ?_
  refine lv_iload_n hx hb dMO_give_1 rfl (lv_at hl 1 rfl) ?_
  refine x_calliD (ws' := [(g, .inr (6, [.ref mP, .int cash, .int (nI n1), .ref mS, .ref mK, .ref mL, .ref mT, .ref mZ, .ref mD, .ref mH, .ref mG, .ref mC, .int cuts, .int lin, .ref m1, .ref m2, .ref m3, .ref m4, .ref mB, .int siz, .int ctr, .ref mX, .ref mY])), (mS, .inl (cI, 8, .inl st)), (mL, .inl (cZ, 8, .inl su))]) hw [0] rfl rfl (x_runV (n := 1) (rest := []) (As := [.int (nI k0)]) S hw (m_none_n l D cI cZ cV g mP mS mK mL mT mZ mD mH mG mC m1 m2 m3 m4 mB mX mY cash cuts lin siz ctr n1 k0 hk _) xh_3_19 xh_3_16 xh_3_18 xsel_MO_none xh_1_6 (by decide +kernel) ⟨by decide, by decide⟩ [0] rfl rfl (ci := 6) (q0 := 0) rfl rfl rfl hl.1 rfl (Nat.le_of_ble_eq_true rfl) dMO_give_2 ⟨by decide, by decide⟩) rfl rfl (fun H locs hw => ?_)
  refine lv_if_eq (tgt := 10) hx hb dMO_give_5 (by decide) (fun h5 => ?_) (fun h5 => absurd rfl h5)
  refine lv_aload_n hx hb dMO_give_10 rfl (lv_at hl 0 rfl) ?_
  refine x_get S hw (C := RMO) (T := TMO) (N := 23) inMO 0 rfl rfl 3 (by decide) xh_2_148 (v := .ref mS) rfl dMO_give_11 ?_
  refine lv_iload_n hx hb dMO_give_14 rfl (lv_at hl 1 rfl) ?_
  refine x_iald S hw 1 0 rfl rfl (j := k0) (vp_in_nI (by omega) (by omega)) (nI_clamp (by omega)) dMO_give_15 ?_
  refine lv_iconst (v := 3) hx hb dMO_give_16 (by decide) ?_
  refine lv_icmp_ne (tgt := 23) hx hb dMO_give_17 (by decide) (fun h17 => ?_) (fun h17 => absurd h17 hs)
  refine lv_aload_n hx hb dMO_give_23 rfl (lv_at hl 0 rfl) ?_
  refine x_get S hw (C := RMO) (T := TMO) (N := 23) inMO 0 rfl rfl 5 (by decide) xh_2_150 (v := .ref mL) rfl dMO_give_24 ?_
  refine lv_iload_n hx hb dMO_give_27 rfl (lv_at hl 1 rfl) ?_
  refine x_zald S hw 2 1 rfl rfl (j := k0) (vp_in_nI (by omega) (by omega)) (nI_clamp (by omega)) dMO_give_28 ?_
  refine lv_if_ne (tgt := 35) hx hb dMO_give_29 (by decide) (fun h29 => absurd hl9 h29) (fun h29 => ?_)
  refine lv_bipush (v := (-4)) hx hb dMO_give_32 (by decide) ?_
  exact x_iret S hr hlk hw (by decide) (by decide) (⟨rfl, rfl⟩) dMO_give_34

set_option maxHeartbeats 4000000 in
set_option maxRecDepth 100000 in
theorem m_giv_out (l : Launch) (D : va_G) (cI cZ cV : ClassId) (g : Nat) (mP : Nat) (mS : Nat) (mK : Nat) (mL : Nat) (mT : Nat) (mZ : Nat) (mD : Nat) (mH : Nat) (mG : Nat) (mC : Nat) (m1 : Nat) (m2 : Nat) (m3 : Nat) (m4 : Nat) (mB : Nat) (mX : Nat) (mY : Nat) (cash : Int32) (cuts : Int32) (lin : Int32) (siz : Int32) (ctr : Int32) (n1 : Nat) (k0 : Nat) (st : Nat → Int32) (su : Nat → Int32) (zz : Nat → Int32) (i : Int32) (x : Int32) (hk : k0 < n1 ∧ n1 ≤ 8) (hs : ¬ st k0 = 3) (hl9 : ¬ su k0 = 0) (hv : i < 1 ∨ zz k0 < i) : XI l yMO_give cMO_give 5 (some .int) D (xT3 cI cZ cV) 1 0 0 [.ref g, .int (nI k0), .int i, .int x] [(g, .inr (6, [.ref mP, .int cash, .int (nI n1), .ref mS, .ref mK, .ref mL, .ref mT, .ref mZ, .ref mD, .ref mH, .ref mG, .ref mC, .int cuts, .int lin, .ref m1, .ref m2, .ref m3, .ref m4, .ref mB, .int siz, .int ctr, .ref mX, .ref mY])), (mS, .inl (cI, 8, .inl st)), (mL, .inl (cZ, 8, .inl su)), (mZ, .inl (cI, 8, .inl zz))] (fun r u => r = -8 ∧ u = [(g, .inr (6, [.ref mP, .int cash, .int (nI n1), .ref mS, .ref mK, .ref mL, .ref mT, .ref mZ, .ref mD, .ref mH, .ref mG, .ref mC, .int cuts, .int lin, .ref m1, .ref m2, .ref m3, .ref m4, .ref mB, .int siz, .int ctr, .ref mX, .ref mY])), (mS, .inl (cI, 8, .inl st)), (mL, .inl (cZ, 8, .inl su)), (mZ, .inl (cI, 8, .inl zz))]) := by
  intro sz
  refine x_ofW (Qc := fun A => va_Qi _ (xB D A) A) sz (by decide) (Nat.le_of_ble_eq_true rfl) ?_
  intro p e s m args below meth c A ls S hr hlk hnm hw hl
  obtain ⟨hx, hb, hml, hown, hts⟩ := id S
  have hl : lv_has ls 5 [(0, .ref g), (1, .int (nI k0)), (2, .int i), (3, .int x)] := hl
  refine lv_aload_n hx hb dMO_give_0 rfl (lv_at hl 0 rfl) ?_
  refine lv_iload_n hx hb dMO_give_1 rfl (lv_at hl 1 rfl) ?_
  refine x_calliD (ws' := [(g, .inr (6, [.ref mP, .int cash, .int (nI n1), .ref mS, .ref mK, .ref mL, .ref mT, .ref mZ, .ref mD, .ref mH, .ref mG, .ref mC, .int cuts, .int lin, .ref m1, .ref m2, .ref m3, .ref m4, .ref mB, .int siz, .int ctr, .ref mX, .ref mY])), (mS, .inl (cI, 8, .inl st)), (mL, .inl (cZ, 8, .inl su)), (mZ, .inl (cI, 8, .inl zz))]) hw [0] rfl rfl (x_runV (n := 1) (rest := []) (As := [.int (nI k0)]) S hw (m_none_n l D cI cZ cV g mP mS mK mL mT mZ mD mH mG mC m1 m2 m3 m4 mB mX mY cash cuts lin siz ctr n1 k0 hk _) xh_3_19 xh_3_16 xh_3_18 xsel_MO_none xh_1_6 (by decide +kernel) ⟨by decide, by decide⟩ [0] rfl rfl (ci := 6) (q0 := 0) rfl rfl rfl hl.1 rfl (Nat.le_of_ble_eq_true rfl) dMO_give_2 ⟨by decide, by decide⟩) rfl rfl (fun H locs hw => ?_)
  refine lv_if_eq (tgt := 10) hx hb dMO_give_5 (by decide) (fun h5 => ?_) (fun h5 => absurd rfl h5)
  refine lv_aload_n hx hb dMO_give_10 rfl (lv_at hl 0 rfl) ?_
  refine x_get S hw (C := RMO) (T := TMO) (N := 23) inMO 0 rfl rfl 3 (by decide) xh_2_148 (v := .ref mS) rfl dMO_give_11 ?_
  refine lv_iload_n hx hb dMO_give_14 rfl (lv_at hl 1 rfl) ?_
  refine x_iald S hw 1 0 rfl rfl (j := k0) (vp_in_nI (by omega) (by omega)) (nI_clamp (by omega)) dMO_give_15 ?_
  refine lv_iconst (v := 3) hx hb dMO_give_16 (by decide) ?_
  refine lv_icmp_ne (tgt := 23) hx hb dMO_give_17 (by decide) (fun h17 => ?_) (fun h17 => absurd h17 hs)
  refine lv_aload_n hx hb dMO_give_23 rfl (lv_at hl 0 rfl) ?_
  refine x_get S hw (C := RMO) (T := TMO) (N := 23) inMO 0 rfl rfl 5 (by decide) xh_2_150 (v := .ref mL) rfl dMO_give_24 ?_
  refine lv_iload_n hx hb dMO_give_27 rfl (lv_at hl 1 rfl) ?_
  refine x_zald S hw 2 1 rfl rfl (j := k0) (vp_in_nI (by omega) (by omega)) (nI_clamp (by omega)) dMO_give_28 ?_
  refine lv_if_ne (tgt := 35) hx hb dMO_give_29 (by decide) (fun h29 => ?_) (fun h29 => absurd h29 hl9)
  refine lv_iload_n hx hb dMO_give_35 rfl (lv_at hl 2 rfl) ?_
  refine lv_iconst (v := 1) hx hb dMO_give_36 (by decide) ?_
  refine lv_icmp_lt (tgt := 73) hx hb dMO_give_37 (by decide) (fun h37 => ?_) (fun h37 => ?_)
  · skip
    refine lv_bipush (v := (-8)) hx hb dMO_give_73 (by decide) ?_
    exact x_iret S hr hlk hw (by decide) (by decide) (⟨rfl, rfl⟩) dMO_give_75
  refine lv_iload_n hx hb dMO_give_40 rfl (lv_at hl 2 rfl) ?_
  refine lv_aload_n hx hb dMO_give_41 rfl (lv_at hl 0 rfl) ?_
  refine x_get S hw (C := RMO) (T := TMO) (N := 23) inMO 0 rfl rfl 7 (by decide) xh_2_152 (v := .ref mZ) rfl dMO_give_42 ?_
  refine lv_iload_n hx hb dMO_give_45 rfl (lv_at hl 1 rfl) ?_
  refine x_iald S hw 3 0 rfl rfl (j := k0) (vp_in_nI (by omega) (by omega)) (nI_clamp (by omega)) dMO_give_46 ?_
  refine lv_icmp_gt (tgt := 73) hx hb dMO_give_47 (by decide) (fun h47 => ?_) (fun h47 => ?_)
  · skip
    refine lv_bipush (v := (-8)) hx hb dMO_give_73 (by decide) ?_
    exact x_iret S hr hlk hw (by decide) (by decide) (⟨rfl, rfl⟩) dMO_give_75
  exact False.elim (by rcases hv with h | h; exact h37 h; exact h47 h)

set_option maxHeartbeats 4000000 in
set_option maxRecDepth 100000 in
theorem m_giv_forg (l : Launch) (D : va_G) (cI cZ cV : ClassId) (g : Nat) (mP : Nat) (mS : Nat) (mK : Nat) (mL : Nat) (mT : Nat) (mZ : Nat) (mD : Nat) (mH : Nat) (mG : Nat) (mC : Nat) (m1 : Nat) (m2 : Nat) (m3 : Nat) (m4 : Nat) (mB : Nat) (mX : Nat) (mY : Nat) (cash : Int32) (cuts : Int32) (lin : Int32) (siz : Int32) (ctr : Int32) (n1 : Nat) (k0 : Nat) (st : Nat → Int32) (su : Nat → Int32) (zz : Nat → Int32) (dd : Nat → Int32) (j : Nat) (x : Int32) (hk : k0 < n1 ∧ n1 ≤ 8) (hs : ¬ st k0 = 3) (hl9 : ¬ su k0 = 0) (hj : 1 ≤ j ∧ j ≤ 8) (hsc : ¬ zz k0 < nI j) (hd : ¬ dd (9 * k0 + j) = fDig (nI j) x) : XI l yMO_give cMO_give 5 (some .int) D (xT3 cI cZ cV) 1 0 0 [.ref g, .int (nI k0), .int (nI j), .int x] [(g, .inr (6, [.ref mP, .int cash, .int (nI n1), .ref mS, .ref mK, .ref mL, .ref mT, .ref mZ, .ref mD, .ref mH, .ref mG, .ref mC, .int cuts, .int lin, .ref m1, .ref m2, .ref m3, .ref m4, .ref mB, .int siz, .int ctr, .ref mX, .ref mY])), (mS, .inl (cI, 8, .inl st)), (mL, .inl (cZ, 8, .inl su)), (mZ, .inl (cI, 8, .inl zz)), (mD, .inl (cI, 72, .inl dd))] (fun r u => r = -8 ∧ u = [(g, .inr (6, [.ref mP, .int cash, .int (nI n1), .ref mS, .ref mK, .ref mL, .ref mT, .ref mZ, .ref mD, .ref mH, .ref mG, .ref mC, .int cuts, .int lin, .ref m1, .ref m2, .ref m3, .ref m4, .ref mB, .int siz, .int ctr, .ref mX, .ref mY])), (mS, .inl (cI, 8, .inl st)), (mL, .inl (cZ, 8, .inl su)), (mZ, .inl (cI, 8, .inl zz)), (mD, .inl (cI, 72, .inl dd))]) := by
  intro sz
  refine x_ofW (Qc := fun A => va_Qi _ (xB D A) A) sz (by decide) (Nat.le_of_ble_eq_true rfl) ?_
  intro p e s m args below meth c A ls S hr hlk hnm hw hl
  obtain ⟨hx, hb, hml, hown, hts⟩ := id S
  have hl : lv_has ls 5 [(0, .ref g), (1, .int (nI k0)), (2, .int (nI j)), (3, .int x)] := hl
  refine lv_aload_n hx hb dMO_give_0 rfl (lv_at hl 0 rfl) ?_
  refine lv_iload_n hx hb dMO_give_1 rfl (lv_at hl 1 rfl) ?_
  refine x_calliD (ws' := [(g, .inr (6, [.ref mP, .int cash, .int (nI n1), .ref mS, .ref mK, .ref mL, .ref mT, .ref mZ, .ref mD, .ref mH, .ref mG, .ref mC, .int cuts, .int lin, .ref m1, .ref m2, .ref m3, .ref m4, .ref mB, .int siz, .int ctr, .ref mX, .ref mY])), (mS, .inl (cI, 8, .inl st)), (mL, .inl (cZ, 8, .inl su)), (mZ, .inl (cI, 8, .inl zz)), (mD, .inl (cI, 72, .inl dd))]) hw [0] rfl rfl (x_runV (n := 1) (rest := []) (As := [.int (nI k0)]) S hw (m_none_n l D cI cZ cV g mP mS mK mL mT mZ mD mH mG mC m1 m2 m3 m4 mB mX mY cash cuts lin siz ctr n1 k0 hk _) xh_3_19 xh_3_16 xh_3_18 xsel_MO_none xh_1_6 (by decide +kernel) ⟨by decide, by decide⟩ [0] rfl rfl (ci := 6) (q0 := 0) rfl rfl rfl hl.1 rfl (Nat.le_of_ble_eq_true rfl) dMO_give_2 ⟨by decide, by decide⟩) rfl rfl (fun H locs hw => ?_)
  refine lv_if_eq (tgt := 10) hx hb dMO_give_5 (by decide) (fun h5 => ?_) (fun h5 => absurd rfl h5)
  refine lv_aload_n hx hb dMO_give_10 rfl (lv_at hl 0 rfl) ?_
  refine x_get S hw (C := RMO) (T := TMO) (N := 23) inMO 0 rfl rfl 3 (by decide) xh_2_148 (v := .ref mS) rfl dMO_give_11 ?_
  refine lv_iload_n hx hb dMO_give_14 rfl (lv_at hl 1 rfl) ?_
  refine x_iald S hw 1 0 rfl rfl (j := k0) (vp_in_nI (by omega) (by omega)) (nI_clamp (by omega)) dMO_give_15 ?_
  refine lv_iconst (v := 3) hx hb dMO_give_16 (by decide) ?_
  refine lv_icmp_ne (tgt := 23) hx hb dMO_give_17 (by decide) (fun h17 => ?_) (fun h17 => absurd h17 hs)
  refine lv_aload_n hx hb dMO_give_23 rfl (lv_at hl 0 rfl) ?_
  refine x_get S hw (C := RMO) (T := TMO) (N := 23) inMO 0 rfl rfl 5 (by decide) xh_2_150 (v := .ref mL) rfl dMO_give_24 ?_
  refine lv_iload_n hx hb dMO_give_27 rfl (lv_at hl 1 rfl) ?_
  refine x_zald S hw 2 1 rfl rfl (j := k0) (vp_in_nI (by omega) (by omega)) (nI_clamp (by omega)) dMO_give_28 ?_
  refine lv_if_ne (tgt := 35) hx hb dMO_give_29 (by decide) (fun h29 => ?_) (fun h29 => absurd h29 hl9)
  refine lv_iload_n hx hb dMO_give_35 rfl (lv_at hl 2 rfl) ?_
  refine lv_iconst (v := 1) hx hb dMO_give_36 (by decide) ?_
  refine lv_icmp_lt (tgt := 73) hx hb dMO_give_37 (by decide) (fun h37 => absurd h37 (nI_nlt (b := 1) (by omega) (by omega))) (fun h37 => ?_)
  refine lv_iload_n hx hb dMO_give_40 rfl (lv_at hl 2 rfl) ?_
  refine lv_aload_n hx hb dMO_give_41 rfl (lv_at hl 0 rfl) ?_
  refine x_get S hw (C := RMO) (T := TMO) (N := 23) inMO 0 rfl rfl 7 (by decide) xh_2_152 (v := .ref mZ) rfl dMO_give_42 ?_
  refine lv_iload_n hx hb dMO_give_45 rfl (lv_at hl 1 rfl) ?_
  refine x_iald S hw 3 0 rfl rfl (j := k0) (vp_in_nI (by omega) (by omega)) (nI_clamp (by omega)) dMO_give_46 ?_
  refine lv_icmp_gt (tgt := 73) hx hb dMO_give_47 (by decide) (fun h47 => absurd h47 hsc) (fun h47 => ?_)
  refine lv_aload_n hx hb dMO_give_50 rfl (lv_at hl 0 rfl) ?_
  refine x_get S hw (C := RMO) (T := TMO) (N := 23) inMO 0 rfl rfl 8 (by decide) xh_2_153 (v := .ref mD) rfl dMO_give_51 ?_
  refine lv_bipush (v := 9) hx hb dMO_give_54 (by decide) ?_
  refine lv_iload_n hx hb dMO_give_56 rfl (lv_at hl 1 rfl) ?_
  refine lv_imul hx hb dMO_give_57 ?_
  refine lv_iload_n hx hb dMO_give_58 rfl (lv_at hl 2 rfl) ?_
  refine lv_iadd hx hb dMO_give_59 ?_
  refine x_topi (y := nI (9 * k0 + j)) (ix9 _ _) ?_
  refine x_iald S hw 4 0 rfl rfl (j := (9 * k0 + j)) (vp_in_nI (by omega) (by omega)) (nI_clamp (by omega)) dMO_give_60 ?_
  refine lv_iconst (v := 5) hx hb dMO_give_61 (by decide) ?_
  refine lv_iload_n hx hb dMO_give_62 rfl (lv_at hl 2 rfl) ?_
  refine x_calliD (ws' := [(g, .inr (6, [.ref mP, .int cash, .int (nI n1), .ref mS, .ref mK, .ref mL, .ref mT, .ref mZ, .ref mD, .ref mH, .ref mG, .ref mC, .int cuts, .int lin, .ref m1, .ref m2, .ref m3, .ref m4, .ref mB, .int siz, .int ctr, .ref mX, .ref mY])), (mS, .inl (cI, 8, .inl st)), (mL, .inl (cZ, 8, .inl su)), (mZ, .inl (cI, 8, .inl zz)), (mD, .inl (cI, 72, .inl dd))]) hw [] rfl rfl (x_runS (n := 2) (rest := [.int (dd (9 * k0 + j))]) (As := [.int 5, .int (nI j)]) S hw (m_mix l D cI cZ cV 5 (nI j) _) xh_3_9 xh_3_7 xh_3_8 xh_1_6 (by decide +kernel) ⟨by decide, by decide⟩ [] rfl rfl rfl hl.1 rfl (Nat.le_of_ble_eq_true rfl) dMO_give_63 ⟨by decide, by decide⟩) rfl rfl (fun H locs hw => ?_)
  refine lv_iload_n hx hb dMO_give_66 rfl (lv_at hl 3 rfl) ?_
  refine x_calliD (ws' := [(g, .inr (6, [.ref mP, .int cash, .int (nI n1), .ref mS, .ref mK, .ref mL, .ref mT, .ref mZ, .ref mD, .ref mH, .ref mG, .ref mC, .int cuts, .int lin, .ref m1, .ref m2, .ref m3, .ref m4, .ref mB, .int siz, .int ctr, .ref mX, .ref mY])), (mS, .inl (cI, 8, .inl st)), (mL, .inl (cZ, 8, .inl su)), (mZ, .inl (cI, 8, .inl zz)), (mD, .inl (cI, 72, .inl dd))]) hw [] rfl rfl (x_runS (n := 2) (rest := [.int (dd (9 * k0 + j))]) (As := [.int (fMix 5 (nI j)), .int x]) S hw (m_mix l D cI cZ cV (fMix 5 (nI j)) x _) xh_3_9 xh_3_7 xh_3_8 xh_1_6 (by decide +kernel) ⟨by decide, by decide⟩ [] rfl rfl rfl hl.1 rfl (Nat.le_of_ble_eq_true rfl) dMO_give_67 ⟨by decide, by decide⟩) rfl rfl (fun H locs hw => ?_)
  refine lv_icmp_eq (tgt := 76) hx hb dMO_give_70 (by decide) (fun h70 => absurd h70 hd) (fun h70 => ?_)
  refine lv_bipush (v := (-8)) hx hb dMO_give_73 (by decide) ?_
  exact x_iret S hr hlk hw (by decide) (by decide) (⟨rfl, rfl⟩) dMO_give_75

set_option maxHeartbeats 4000000 in
set_option maxRecDepth 100000 in
theorem m_giv_have (l : Launch) (D : va_G) (cI cZ cV : ClassId) (g : Nat) (mP : Nat) (mS : Nat) (mK : Nat) (mL : Nat) (mT : Nat) (mZ : Nat) (mD : Nat) (mH : Nat) (mG : Nat) (mC : Nat) (m1 : Nat) (m2 : Nat) (m3 : Nat) (m4 : Nat) (mB : Nat) (mX : Nat) (mY : Nat) (cash : Int32) (cuts : Int32) (lin : Int32) (siz : Int32) (ctr : Int32) (n1 : Nat) (k0 : Nat) (st : Nat → Int32) (su : Nat → Int32) (zz : Nat → Int32) (dd : Nat → Int32) (tt : Nat → Int32) (gg : Nat → Int32) (j : Nat) (g0 : Nat) (d0 : Nat) (x : Int32) (hk : k0 < n1 ∧ n1 ≤ 8) (hs : ¬ st k0 = 3) (hl9 : ¬ su k0 = 0) (hj : 1 ≤ j ∧ j ≤ 8) (hsc : ¬ zz k0 < nI j) (hd : dd (9 * k0 + j) = fDig (nI j) x) (ht : tt k0 = nI (g0 + d0 + 1)) (hg0 : gtF gg k0 8 = g0) (hg : ¬ gg (9 * k0 + j) = 0) : XI l yMO_give cMO_give 5 (some .int) D (xT3 cI cZ cV) 1 0 0 [.ref g, .int (nI k0), .int (nI j), .int x] [(g, .inr (6, [.ref mP, .int cash, .int (nI n1), .ref mS, .ref mK, .ref mL, .ref mT, .ref mZ, .ref mD, .ref mH, .ref mG, .ref mC, .int cuts, .int lin, .ref m1, .ref m2, .ref m3, .ref m4, .ref mB, .int siz, .int ctr, .ref mX, .ref mY])), (mS, .inl (cI, 8, .inl st)), (mL, .inl (cZ, 8, .inl su)), (mZ, .inl (cI, 8, .inl zz)), (mD, .inl (cI, 72, .inl dd)), (mT, .inl (cI, 8, .inl tt)), (mG, .inl (cZ, 72, .inl gg))] (fun r u => r = nI (d0 + 1) ∧ u = [(g, .inr (6, [.ref mP, .int cash, .int (nI n1), .ref mS, .ref mK, .ref mL, .ref mT, .ref mZ, .ref mD, .ref mH, .ref mG, .ref mC, .int cuts, .int lin, .ref m1, .ref m2, .ref m3, .ref m4, .ref mB, .int siz, .int ctr, .ref mX, .ref mY])), (mS, .inl (cI, 8, .inl st)), (mL, .inl (cZ, 8, .inl su)), (mZ, .inl (cI, 8, .inl zz)), (mD, .inl (cI, 72, .inl dd)), (mT, .inl (cI, 8, .inl tt)), (mG, .inl (cZ, 72, .inl gg))]) := by
  intro sz
  refine x_ofW (Qc := fun A => va_Qi _ (xB D A) A) sz (by decide) (Nat.le_of_ble_eq_true rfl) ?_
  intro p e s m args below meth c A ls S hr hlk hnm hw hl
  obtain ⟨hx, hb, hml, hown, hts⟩ := id S
  have hl : lv_has ls 5 [(0, .ref g), (1, .int (nI k0)), (2, .int (nI j)), (3, .int x)] := hl
  refine lv_aload_n hx hb dMO_give_0 rfl (lv_at hl 0 rfl) ?_
  refine lv_iload_n hx hb dMO_give_1 rfl (lv_at hl 1 rfl) ?_
  refine x_calliD (ws' := [(g, .inr (6, [.ref mP, .int cash, .int (nI n1), .ref mS, .ref mK, .ref mL, .ref mT, .ref mZ, .ref mD, .ref mH, .ref mG, .ref mC, .int cuts, .int lin, .ref m1, .ref m2, .ref m3, .ref m4, .ref mB, .int siz, .int ctr, .ref mX, .ref mY])), (mS, .inl (cI, 8, .inl st)), (mL, .inl (cZ, 8, .inl su)), (mZ, .inl (cI, 8, .inl zz)), (mD, .inl (cI, 72, .inl dd)), (mT, .inl (cI, 8, .inl tt)), (mG, .inl (cZ, 72, .inl gg))]) hw [0] rfl rfl (x_runV (n := 1) (rest := []) (As := [.int (nI k0)]) S hw (m_none_n l D cI cZ cV g mP mS mK mL mT mZ mD mH mG mC m1 m2 m3 m4 mB mX mY cash cuts lin siz ctr n1 k0 hk _) xh_3_19 xh_3_16 xh_3_18 xsel_MO_none xh_1_6 (by decide +kernel) ⟨by decide, by decide⟩ [0] rfl rfl (ci := 6) (q0 := 0) rfl rfl rfl hl.1 rfl (Nat.le_of_ble_eq_true rfl) dMO_give_2 ⟨by decide, by decide⟩) rfl rfl (fun H locs hw => ?_)
  refine lv_if_eq (tgt := 10) hx hb dMO_give_5 (by decide) (fun h5 => ?_) (fun h5 => absurd rfl h5)
  refine lv_aload_n hx hb dMO_give_10 rfl (lv_at hl 0 rfl) ?_
  refine x_get S hw (C := RMO) (T := TMO) (N := 23) inMO 0 rfl rfl 3 (by decide) xh_2_148 (v := .ref mS) rfl dMO_give_11 ?_
  refine lv_iload_n hx hb dMO_give_14 rfl (lv_at hl 1 rfl) ?_
  refine x_iald S hw 1 0 rfl rfl (j := k0) (vp_in_nI (by omega) (by omega)) (nI_clamp (by omega)) dMO_give_15 ?_
  refine lv_iconst (v := 3) hx hb dMO_give_16 (by decide) ?_
  refine lv_icmp_ne (tgt := 23) hx hb dMO_give_17 (by decide) (fun h17 => ?_) (fun h17 => absurd h17 hs)
  refine lv_aload_n hx hb dMO_give_23 rfl (lv_at hl 0 rfl) ?_
  refine x_get S hw (C := RMO) (T := TMO) (N := 23) inMO 0 rfl rfl 5 (by decide) xh_2_150 (v := .ref mL) rfl dMO_give_24 ?_
  refine lv_iload_n hx hb dMO_give_27 rfl (lv_at hl 1 rfl) ?_
  refine x_zald S hw 2 1 rfl rfl (j := k0) (vp_in_nI (by omega) (by omega)) (nI_clamp (by omega)) dMO_give_28 ?_
  refine lv_if_ne (tgt := 35) hx hb dMO_give_29 (by decide) (fun h29 => ?_) (fun h29 => absurd h29 hl9)
  refine lv_iload_n hx hb dMO_give_35 rfl (lv_at hl 2 rfl) ?_
  refine lv_iconst (v := 1) hx hb dMO_give_36 (by decide) ?_
  refine lv_icmp_lt (tgt := 73) hx hb dMO_give_37 (by decide) (fun h37 => absurd h37 (nI_nlt (b := 1) (by omega) (by omega))) (fun h37 => ?_)
  refine lv_iload_n hx hb dMO_give_40 rfl (lv_at hl 2 rfl) ?_
  refine lv_aload_n hx hb dMO_give_41 rfl (lv_at hl 0 rfl) ?_
  refine x_get S hw (C := RMO) (T := TMO) (N := 23) inMO 0 rfl rfl 7 (by decide) xh_2_152 (v := .ref mZ) rfl dMO_give_42 ?_
  refine lv_iload_n hx hb dMO_give_45 rfl (lv_at hl 1 rfl) ?_
  refine x_iald S hw 3 0 rfl rfl (j := k0) (vp_in_nI (by omega) (by omega)) (nI_clamp (by omega)) dMO_give_46 ?_
  refine lv_icmp_gt (tgt := 73) hx hb dMO_give_47 (by decide) (fun h47 => absurd h47 hsc) (fun h47 => ?_)
  refine lv_aload_n hx hb dMO_give_50 rfl (lv_at hl 0 rfl) ?_
  refine x_get S hw (C := RMO) (T := TMO) (N := 23) inMO 0 rfl rfl 8 (by decide) xh_2_153 (v := .ref mD) rfl dMO_give_51 ?_
  refine lv_bipush (v := 9) hx hb dMO_give_54 (by decide) ?_
  refine lv_iload_n hx hb dMO_give_56 rfl (lv_at hl 1 rfl) ?_
  refine lv_imul hx hb dMO_give_57 ?_
  refine lv_iload_n hx hb dMO_give_58 rfl (lv_at hl 2 rfl) ?_
  refine lv_iadd hx hb dMO_give_59 ?_
  refine x_topi (y := nI (9 * k0 + j)) (ix9 _ _) ?_
  refine x_iald S hw 4 0 rfl rfl (j := (9 * k0 + j)) (vp_in_nI (by omega) (by omega)) (nI_clamp (by omega)) dMO_give_60 ?_
  refine lv_iconst (v := 5) hx hb dMO_give_61 (by decide) ?_
  refine lv_iload_n hx hb dMO_give_62 rfl (lv_at hl 2 rfl) ?_
  refine x_calliD (ws' := [(g, .inr (6, [.ref mP, .int cash, .int (nI n1), .ref mS, .ref mK, .ref mL, .ref mT, .ref mZ, .ref mD, .ref mH, .ref mG, .ref mC, .int cuts, .int lin, .ref m1, .ref m2, .ref m3, .ref m4, .ref mB, .int siz, .int ctr, .ref mX, .ref mY])), (mS, .inl (cI, 8, .inl st)), (mL, .inl (cZ, 8, .inl su)), (mZ, .inl (cI, 8, .inl zz)), (mD, .inl (cI, 72, .inl dd)), (mT, .inl (cI, 8, .inl tt)), (mG, .inl (cZ, 72, .inl gg))]) hw [] rfl rfl (x_runS (n := 2) (rest := [.int (dd (9 * k0 + j))]) (As := [.int 5, .int (nI j)]) S hw (m_mix l D cI cZ cV 5 (nI j) _) xh_3_9 xh_3_7 xh_3_8 xh_1_6 (by decide +kernel) ⟨by decide, by decide⟩ [] rfl rfl rfl hl.1 rfl (Nat.le_of_ble_eq_true rfl) dMO_give_63 ⟨by decide, by decide⟩) rfl rfl (fun H locs hw => ?_)
  refine lv_iload_n hx hb dMO_give_66 rfl (lv_at hl 3 rfl) ?_
  refine x_calliD (ws' := [(g, .inr (6, [.ref mP, .int cash, .int (nI n1), .ref mS, .ref mK, .ref mL, .ref mT, .ref mZ, .ref mD, .ref mH, .ref mG, .ref mC, .int cuts, .int lin, .ref m1, .ref m2, .ref m3, .ref m4, .ref mB, .int siz, .int ctr, .ref mX, .ref mY])), (mS, .inl (cI, 8, .inl st)), (mL, .inl (cZ, 8, .inl su)), (mZ, .inl (cI, 8, .inl zz)), (mD, .inl (cI, 72, .inl dd)), (mT, .inl (cI, 8, .inl tt)), (mG, .inl (cZ, 72, .inl gg))]) hw [] rfl rfl (x_runS (n := 2) (rest := [.int (dd (9 * k0 + j))]) (As := [.int (fMix 5 (nI j)), .int x]) S hw (m_mix l D cI cZ cV (fMix 5 (nI j)) x _) xh_3_9 xh_3_7 xh_3_8 xh_1_6 (by decide +kernel) ⟨by decide, by decide⟩ [] rfl rfl rfl hl.1 rfl (Nat.le_of_ble_eq_true rfl) dMO_give_67 ⟨by decide, by decide⟩) rfl rfl (fun H locs hw => ?_)
  refine lv_icmp_eq (tgt := 76) hx hb dMO_give_70 (by decide) (fun h70 => ?_) (fun h70 => absurd hd h70)
  refine lv_aload_n hx hb dMO_give_76 rfl (lv_at hl 0 rfl) ?_
  refine x_get S hw (C := RMO) (T := TMO) (N := 23) inMO 0 rfl rfl 6 (by decide) xh_2_151 (v := .ref mT) rfl dMO_give_77 ?_
  refine lv_iload_n hx hb dMO_give_80 rfl (lv_at hl 1 rfl) ?_
  refine x_iald S hw 5 0 rfl rfl (j := k0) (vp_in_nI (by omega) (by omega)) (nI_clamp (by omega)) dMO_give_81 ?_
  refine lv_aload_n hx hb dMO_give_82 rfl (lv_at hl 0 rfl) ?_
  refine lv_iload_n hx hb dMO_give_83 rfl (lv_at hl 1 rfl) ?_
  refine x_calliD (ws' := [(g, .inr (6, [.ref mP, .int cash, .int (nI n1), .ref mS, .ref mK, .ref mL, .ref mT, .ref mZ, .ref mD, .ref mH, .ref mG, .ref mC, .int cuts, .int lin, .ref m1, .ref m2, .ref m3, .ref m4, .ref mB, .int siz, .int ctr, .ref mX, .ref mY])), (mS, .inl (cI, 8, .inl st)), (mL, .inl (cZ, 8, .inl su)), (mZ, .inl (cI, 8, .inl zz)), (mD, .inl (cI, 72, .inl dd)), (mT, .inl (cI, 8, .inl tt)), (mG, .inl (cZ, 72, .inl gg))]) hw [0, 6] rfl rfl (x_runV (n := 1) (rest := [.int (tt k0)]) (As := [.int (nI k0)]) S hw (m_givenTo l D cI cZ cV g mP mS mK mL mT mZ mD mH mG mC m1 m2 m3 m4 mB mX mY cash (nI n1) cuts lin siz ctr gg k0 (by omega) _) xh_3_46 xh_3_43 xh_3_45 xsel_MO_givenTo xh_1_6 (by decide +kernel) ⟨by decide, by decide⟩ [0, 6] rfl rfl (ci := 6) (q0 := 0) rfl rfl rfl hl.1 rfl (Nat.le_of_ble_eq_true rfl) dMO_give_84 ⟨by decide, by decide⟩) rfl rfl (fun H locs hw => ?_)
  refine lv_isub hx hb dMO_give_87 ?_
  refine x_topi (y := nI (d0 + 1)) (by rw [ht, hg0, pk_sub (by omega), show g0 + d0 + 1 - g0 = d0 + 1 by omega]) ?_
  refine lv_istore (lv' := [(4, .int (nI (d0 + 1))), (0, .ref g), (1, .int (nI k0)), (2, .int (nI j)), (3, .int x)]) hx hb dMO_give_88 hl (by decide) rfl (fun ls hl => ?_)
  refine lv_aload_n hx hb dMO_give_90 rfl (lv_at hl 1 rfl) ?_
  refine x_get S hw (C := RMO) (T := TMO) (N := 23) inMO 0 rfl rfl 10 (by decide) xh_2_155 (v := .ref mG) rfl dMO_give_91 ?_
  refine lv_bipush (v := 9) hx hb dMO_give_94 (by decide) ?_
  refine lv_iload_n hx hb dMO_give_96 rfl (lv_at hl 2 rfl) ?_
  refine lv_imul hx hb dMO_give_97 ?_
  refine lv_iload_n hx hb dMO_give_98 rfl (lv_at hl 3 rfl) ?_
  refine lv_iadd hx hb dMO_give_99 ?_
  refine x_topi (y := nI (9 * k0 + j)) (ix9 _ _) ?_
  refine x_zald S hw 6 1 rfl rfl (j := (9 * k0 + j)) (vp_in_nI (by omega) (by omega)) (nI_clamp (by omega)) dMO_give_100 ?_
  refine lv_if_eq (tgt := 107) hx hb dMO_give_101 (by decide) (fun h101 => absurd h101 hg) (fun h101 => ?_)
  refine lv_iload hx hb dMO_give_104 (lv_at hl 0 rfl) ?_
  exact x_iret S hr hlk hw (by decide) (by decide) (⟨rfl, rfl⟩) dMO_give_106

set_option maxHeartbeats 4000000 in
set_option maxRecDepth 100000 in
theorem m_giv_full (l : Launch) (D : va_G) (cI cZ cV : ClassId) (g : Nat) (mP : Nat) (mS : Nat) (mK : Nat) (mL : Nat) (mT : Nat) (mZ : Nat) (mD : Nat) (mH : Nat) (mG : Nat) (mC : Nat) (m1 : Nat) (m2 : Nat) (m3 : Nat) (m4 : Nat) (mB : Nat) (mX : Nat) (mY : Nat) (cash : Int32) (cuts : Int32) (siz : Int32) (ctr : Int32) (n1 : Nat) (k0 : Nat) (l0 : Nat) (st : Nat → Int32) (su : Nat → Int32) (zz : Nat → Int32) (dd : Nat → Int32) (tt : Nat → Int32) (gg : Nat → Int32) (j : Nat) (g0 : Nat) (d0 : Nat) (x : Int32) (hk : k0 < n1 ∧ n1 ≤ 8) (hs : ¬ st k0 = 3) (hl9 : ¬ su k0 = 0) (hj : 1 ≤ j ∧ j ≤ 8) (hsc : ¬ zz k0 < nI j) (hd : dd (9 * k0 + j) = fDig (nI j) x) (ht : tt k0 = nI (g0 + d0 + 1)) (hg0 : gtF gg k0 8 = g0) (hg : gg (9 * k0 + j) = 0) (hd0 : 0 < d0 ∧ d0 < 100) (hc : l0 = 80) : XI l yMO_give cMO_give 5 (some .int) D (xT3 cI cZ cV) 1 0 0 [.ref g, .int (nI k0), .int (nI j), .int x] [(g, .inr (6, [.ref mP, .int cash, .int (nI n1), .ref mS, .ref mK, .ref mL, .ref mT, .ref mZ, .ref mD, .ref mH, .ref mG, .ref mC, .int cuts, .int (nI l0), .ref m1, .ref m2, .ref m3, .ref m4, .ref mB, .int siz, .int ctr, .ref mX, .ref mY])), (mS, .inl (cI, 8, .inl st)), (mL, .inl (cZ, 8, .inl su)), (mZ, .inl (cI, 8, .inl zz)), (mD, .inl (cI, 72, .inl dd)), (mT, .inl (cI, 8, .inl tt)), (mG, .inl (cZ, 72, .inl gg))] (fun r u => r = -2 ∧ u = [(g, .inr (6, [.ref mP, .int cash, .int (nI n1), .ref mS, .ref mK, .ref mL, .ref mT, .ref mZ, .ref mD, .ref mH, .ref mG, .ref mC, .int cuts, .int (nI l0), .ref m1, .ref m2, .ref m3, .ref m4, .ref mB, .int siz, .int ctr, .ref mX, .ref mY])), (mS, .inl (cI, 8, .inl st)), (mL, .inl (cZ, 8, .inl su)), (mZ, .inl (cI, 8, .inl zz)), (mD, .inl (cI, 72, .inl dd)), (mT, .inl (cI, 8, .inl tt)), (mG, .inl (cZ, 72, .inl gg))]) := by
  intro sz
  refine x_ofW (Qc := fun A => va_Qi _ (xB D A) A) sz (by decide) (Nat.le_of_ble_eq_true rfl) ?_
  intro p e s m args below meth c A ls S hr hlk hnm hw hl
  obtain ⟨hx, hb, hml, hown, hts⟩ := id S
  have hl : lv_has ls 5 [(0, .ref g), (1, .int (nI k0)), (2, .int (nI j)), (3, .int x)] := hl
  refine lv_aload_n hx hb dMO_give_0 rfl (lv_at hl 0 rfl) ?_
  refine lv_iload_n hx hb dMO_give_1 rfl (lv_at hl 1 rfl) ?_
  refine x_calliD (ws' := [(g, .inr (6, [.ref mP, .int cash, .int (nI n1), .ref mS, .ref mK, .ref mL, .ref mT, .ref mZ, .ref mD, .ref mH, .ref mG, .ref mC, .int cuts, .int (nI l0), .ref m1, .ref m2, .ref m3, .ref m4, .ref mB, .int siz, .int ctr, .ref mX, .ref mY])), (mS, .inl (cI, 8, .inl st)), (mL, .inl (cZ, 8, .inl su)), (mZ, .inl (cI, 8, .inl zz)), (mD, .inl (cI, 72, .inl dd)), (mT, .inl (cI, 8, .inl tt)), (mG, .inl (cZ, 72, .inl gg))]) hw [0] rfl rfl (x_runV (n := 1) (rest := []) (As := [.int (nI k0)]) S hw (m_none_n l D cI cZ cV g mP mS mK mL mT mZ mD mH mG mC m1 m2 m3 m4 mB mX mY cash cuts (nI l0) siz ctr n1 k0 hk _) xh_3_19 xh_3_16 xh_3_18 xsel_MO_none xh_1_6 (by decide +kernel) ⟨by decide, by decide⟩ [0] rfl rfl (ci := 6) (q0 := 0) rfl rfl rfl hl.1 rfl (Nat.le_of_ble_eq_true rfl) dMO_give_2 ⟨by decide, by decide⟩) rfl rfl (fun H locs hw => ?_)
  refine lv_if_eq (tgt := 10) hx hb dMO_give_5 (by decide) (fun h5 => ?_) (fun h5 => absurd rfl h5)
  refine lv_aload_n hx hb dMO_give_10 rfl (lv_at hl 0 rfl) ?_
  refine x_get S hw (C := RMO) (T := TMO) (N := 23) inMO 0 rfl rfl 3 (by decide) xh_2_148 (v := .ref mS) rfl dMO_give_11 ?_
  refine lv_iload_n hx hb dMO_give_14 rfl (lv_at hl 1 rfl) ?_
  refine x_iald S hw 1 0 rfl rfl (j := k0) (vp_in_nI (by omega) (by omega)) (nI_clamp (by omega)) dMO_give_15 ?_
  refine lv_iconst (v := 3) hx hb dMO_give_16 (by decide) ?_
  refine lv_icmp_ne (tgt := 23) hx hb dMO_give_17 (by decide) (fun h17 => ?_) (fun h17 => absurd h17 hs)
  refine lv_aload_n hx hb dMO_give_23 rfl (lv_at hl 0 rfl) ?_
  refine x_get S hw (C := RMO) (T := TMO) (N := 23) inMO 0 rfl rfl 5 (by decide) xh_2_150 (v := .ref mL) rfl dMO_give_24 ?_
  refine lv_iload_n hx hb dMO_give_27 rfl (lv_at hl 1 rfl) ?_
  refine x_zald S hw 2 1 rfl rfl (j := k0) (vp_in_nI (by omega) (by omega)) (nI_clamp (by omega)) dMO_give_28 ?_
  refine lv_if_ne (tgt := 35) hx hb dMO_give_29 (by decide) (fun h29 => ?_) (fun h29 => absurd h29 hl9)
  refine lv_iload_n hx hb dMO_give_35 rfl (lv_at hl 2 rfl) ?_
  refine lv_iconst (v := 1) hx hb dMO_give_36 (by decide) ?_
  refine lv_icmp_lt (tgt := 73) hx hb dMO_give_37 (by decide) (fun h37 => absurd h37 (nI_nlt (b := 1) (by omega) (by omega))) (fun h37 => ?_)
  refine lv_iload_n hx hb dMO_give_40 rfl (lv_at hl 2 rfl) ?_
  refine lv_aload_n hx hb dMO_give_41 rfl (lv_at hl 0 rfl) ?_
  refine x_get S hw (C := RMO) (T := TMO) (N := 23) inMO 0 rfl rfl 7 (by decide) xh_2_152 (v := .ref mZ) rfl dMO_give_42 ?_
  refine lv_iload_n hx hb dMO_give_45 rfl (lv_at hl 1 rfl) ?_
  refine x_iald S hw 3 0 rfl rfl (j := k0) (vp_in_nI (by omega) (by omega)) (nI_clamp (by omega)) dMO_give_46 ?_
  refine lv_icmp_gt (tgt := 73) hx hb dMO_give_47 (by decide) (fun h47 => absurd h47 hsc) (fun h47 => ?_)
  refine lv_aload_n hx hb dMO_give_50 rfl (lv_at hl 0 rfl) ?_
  refine x_get S hw (C := RMO) (T := TMO) (N := 23) inMO 0 rfl rfl 8 (by decide) xh_2_153 (v := .ref mD) rfl dMO_give_51 ?_
  refine lv_bipush (v := 9) hx hb dMO_give_54 (by decide) ?_
  refine lv_iload_n hx hb dMO_give_56 rfl (lv_at hl 1 rfl) ?_
  refine lv_imul hx hb dMO_give_57 ?_
  refine lv_iload_n hx hb dMO_give_58 rfl (lv_at hl 2 rfl) ?_
  refine lv_iadd hx hb dMO_give_59 ?_
  refine x_topi (y := nI (9 * k0 + j)) (ix9 _ _) ?_
  refine x_iald S hw 4 0 rfl rfl (j := (9 * k0 + j)) (vp_in_nI (by omega) (by omega)) (nI_clamp (by omega)) dMO_give_60 ?_
  refine lv_iconst (v := 5) hx hb dMO_give_61 (by decide) ?_
  refine lv_iload_n hx hb dMO_give_62 rfl (lv_at hl 2 rfl) ?_
  refine x_calliD (ws' := [(g, .inr (6, [.ref mP, .int cash, .int (nI n1), .ref mS, .ref mK, .ref mL, .ref mT, .ref mZ, .ref mD, .ref mH, .ref mG, .ref mC, .int cuts, .int (nI l0), .ref m1, .ref m2, .ref m3, .ref m4, .ref mB, .int siz, .int ctr, .ref mX, .ref mY])), (mS, .inl (cI, 8, .inl st)), (mL, .inl (cZ, 8, .inl su)), (mZ, .inl (cI, 8, .inl zz)), (mD, .inl (cI, 72, .inl dd)), (mT, .inl (cI, 8, .inl tt)), (mG, .inl (cZ, 72, .inl gg))]) hw [] rfl rfl (x_runS (n := 2) (rest := [.int (dd (9 * k0 + j))]) (As := [.int 5, .int (nI j)]) S hw (m_mix l D cI cZ cV 5 (nI j) _) xh_3_9 xh_3_7 xh_3_8 xh_1_6 (by decide +kernel) ⟨by decide, by decide⟩ [] rfl rfl rfl hl.1 rfl (Nat.le_of_ble_eq_true rfl) dMO_give_63 ⟨by decide, by decide⟩) rfl rfl (fun H locs hw => ?_)
  refine lv_iload_n hx hb dMO_give_66 rfl (lv_at hl 3 rfl) ?_
  refine x_calliD (ws' := [(g, .inr (6, [.ref mP, .int cash, .int (nI n1), .ref mS, .ref mK, .ref mL, .ref mT, .ref mZ, .ref mD, .ref mH, .ref mG, .ref mC, .int cuts, .int (nI l0), .ref m1, .ref m2, .ref m3, .ref m4, .ref mB, .int siz, .int ctr, .ref mX, .ref mY])), (mS, .inl (cI, 8, .inl st)), (mL, .inl (cZ, 8, .inl su)), (mZ, .inl (cI, 8, .inl zz)), (mD, .inl (cI, 72, .inl dd)), (mT, .inl (cI, 8, .inl tt)), (mG, .inl (cZ, 72, .inl gg))]) hw [] rfl rfl (x_runS (n := 2) (rest := [.int (dd (9 * k0 + j))]) (As := [.int (fMix 5 (nI j)), .int x]) S hw (m_mix l D cI cZ cV (fMix 5 (nI j)) x _) xh_3_9 xh_3_7 xh_3_8 xh_1_6 (by decide +kernel) ⟨by decide, by decide⟩ [] rfl rfl rfl hl.1 rfl (Nat.le_of_ble_eq_true rfl) dMO_give_67 ⟨by decide, by decide⟩) rfl rfl (fun H locs hw => ?_)
  refine lv_icmp_eq (tgt := 76) hx hb dMO_give_70 (by decide) (fun h70 => ?_) (fun h70 => absurd hd h70)
  refine lv_aload_n hx hb dMO_give_76 rfl (lv_at hl 0 rfl) ?_
  refine x_get S hw (C := RMO) (T := TMO) (N := 23) inMO 0 rfl rfl 6 (by decide) xh_2_151 (v := .ref mT) rfl dMO_give_77 ?_
  refine lv_iload_n hx hb dMO_give_80 rfl (lv_at hl 1 rfl) ?_
  refine x_iald S hw 5 0 rfl rfl (j := k0) (vp_in_nI (by omega) (by omega)) (nI_clamp (by omega)) dMO_give_81 ?_
  refine lv_aload_n hx hb dMO_give_82 rfl (lv_at hl 0 rfl) ?_
  refine lv_iload_n hx hb dMO_give_83 rfl (lv_at hl 1 rfl) ?_
  refine x_calliD (ws' := [(g, .inr (6, [.ref mP, .int cash, .int (nI n1), .ref mS, .ref mK, .ref mL, .ref mT, .ref mZ, .ref mD, .ref mH, .ref mG, .ref mC, .int cuts, .int (nI l0), .ref m1, .ref m2, .ref m3, .ref m4, .ref mB, .int siz, .int ctr, .ref mX, .ref mY])), (mS, .inl (cI, 8, .inl st)), (mL, .inl (cZ, 8, .inl su)), (mZ, .inl (cI, 8, .inl zz)), (mD, .inl (cI, 72, .inl dd)), (mT, .inl (cI, 8, .inl tt)), (mG, .inl (cZ, 72, .inl gg))]) hw [0, 6] rfl rfl (x_runV (n := 1) (rest := [.int (tt k0)]) (As := [.int (nI k0)]) S hw (m_givenTo l D cI cZ cV g mP mS mK mL mT mZ mD mH mG mC m1 m2 m3 m4 mB mX mY cash (nI n1) cuts (nI l0) siz ctr gg k0 (by omega) _) xh_3_46 xh_3_43 xh_3_45 xsel_MO_givenTo xh_1_6 (by decide +kernel) ⟨by decide, by decide⟩ [0, 6] rfl rfl (ci := 6) (q0 := 0) rfl rfl rfl hl.1 rfl (Nat.le_of_ble_eq_true rfl) dMO_give_84 ⟨by decide, by decide⟩) rfl rfl (fun H locs hw => ?_)
  refine lv_isub hx hb dMO_give_87 ?_
  refine x_topi (y := nI (d0 + 1)) (by rw [ht, hg0, pk_sub (by omega), show g0 + d0 + 1 - g0 = d0 + 1 by omega]) ?_
  refine lv_istore (lv' := [(4, .int (nI (d0 + 1))), (0, .ref g), (1, .int (nI k0)), (2, .int (nI j)), (3, .int x)]) hx hb dMO_give_88 hl (by decide) rfl (fun ls hl => ?_)
  refine lv_aload_n hx hb dMO_give_90 rfl (lv_at hl 1 rfl) ?_
  refine x_get S hw (C := RMO) (T := TMO) (N := 23) inMO 0 rfl rfl 10 (by decide) xh_2_155 (v := .ref mG) rfl dMO_give_91 ?_
  refine lv_bipush (v := 9) hx hb dMO_give_94 (by decide) ?_
  refine lv_iload_n hx hb dMO_give_96 rfl (lv_at hl 2 rfl) ?_
  refine lv_imul hx hb dMO_give_97 ?_
  refine lv_iload_n hx hb dMO_give_98 rfl (lv_at hl 3 rfl) ?_
  refine lv_iadd hx hb dMO_give_99 ?_
  refine x_topi (y := nI (9 * k0 + j)) (ix9 _ _) ?_
  refine x_zald S hw 6 1 rfl rfl (j := (9 * k0 + j)) (vp_in_nI (by omega) (by omega)) (nI_clamp (by omega)) dMO_give_100 ?_
  refine lv_if_eq (tgt := 107) hx hb dMO_give_101 (by decide) (fun h101 => ?_) (fun h101 => absurd hg h101)
  refine lv_aload_n hx hb dMO_give_107 rfl (lv_at hl 1 rfl) ?_
  refine x_get S hw (C := RMO) (T := TMO) (N := 23) inMO 0 rfl rfl 13 (by decide) xh_2_158 (v := .int (nI l0)) rfl dMO_give_108 ?_
  refine lv_iload hx hb dMO_give_111 (lv_at hl 0 rfl) ?_
  refine lv_iconst (v := 1) hx hb dMO_give_113 (by decide) ?_
  refine lv_icmp_ne (tgt := 121) hx hb dMO_give_114 (by decide) (fun h114 => ?_) (fun h114 => absurd h114 (fun e => by have := (nI_eq (a := d0 + 1) (b := 1) (by omega) (by omega)).mp e; omega))
  refine lv_iconst (v := 1) hx hb dMO_give_121 (by decide) ?_
  refine lv_iadd hx hb dMO_give_122 ?_
  refine x_topi (y := nI (l0 + 1)) ((nI_succ _).symm) ?_
  refine lv_bipush (v := 80) hx hb dMO_give_123 (by decide) ?_
  refine lv_icmp_le (tgt := 131) hx hb dMO_give_125 (by decide) (fun h125 => absurd h125 (nI_ge (b := l0 + 1) (a := 80) (by omega) (by omega))) (fun h125 => ?_)
  refine lv_bipush (v := (-2)) hx hb dMO_give_128 (by decide) ?_
  exact x_iret S hr hlk hw (by decide) (by decide) (⟨rfl, rfl⟩) dMO_give_130

set_option maxHeartbeats 4000000 in
set_option maxRecDepth 100000 in
theorem m_giv_ok (l : Launch) (D : va_G) (cI cZ cV : ClassId) (g : Nat) (mP : Nat) (mS : Nat) (mK : Nat) (mL : Nat) (mT : Nat) (mZ : Nat) (mD : Nat) (mH : Nat) (mG : Nat) (mC : Nat) (m1 : Nat) (m2 : Nat) (m3 : Nat) (m4 : Nat) (mB : Nat) (mX : Nat) (mY : Nat) (cash : Int32) (cuts : Int32) (siz : Int32) (ctr : Int32) (n1 : Nat) (k0 : Nat) (l0 : Nat) (st : Nat → Int32) (su : Nat → Int32) (zz : Nat → Int32) (dd : Nat → Int32) (tt : Nat → Int32) (gg : Nat → Int32) (hh : Nat → Int32) (ks : Nat → Int32) (ns : Nat → Int32) (ds : Nat → Int32) (ss : Nat → Int32) (j : Nat) (g0 : Nat) (d0 : Nat) (x : Int32) (hk : k0 < n1 ∧ n1 ≤ 8) (hs : ¬ st k0 = 3) (hl9 : ¬ su k0 = 0) (hj : 1 ≤ j ∧ j ≤ 8) (hsc : ¬ zz k0 < nI j) (hd : dd (9 * k0 + j) = fDig (nI j) x) (ht : tt k0 = nI (g0 + d0 + 1)) (hg0 : gtF gg k0 8 = g0) (hg : gg (9 * k0 + j) = 0) (hd0 : 0 < d0 ∧ d0 < 100) (hc : l0 < 80) : XI l yMO_give cMO_give 5 (some .int) D (xT3 cI cZ cV) 2 0 0 [.ref g, .int (nI k0), .int (nI j), .int x] [(g, .inr (6, [.ref mP, .int cash, .int (nI n1), .ref mS, .ref mK, .ref mL, .ref mT, .ref mZ, .ref mD, .ref mH, .ref mG, .ref mC, .int cuts, .int (nI l0), .ref m1, .ref m2, .ref m3, .ref m4, .ref mB, .int siz, .int ctr, .ref mX, .ref mY])), (mS, .inl (cI, 8, .inl st)), (mL, .inl (cZ, 8, .inl su)), (mZ, .inl (cI, 8, .inl zz)), (mD, .inl (cI, 72, .inl dd)), (mT, .inl (cI, 8, .inl tt)), (mG, .inl (cZ, 72, .inl gg)), (mH, .inl (cI, 72, .inl hh)), (m1, .inl (cI, 80, .inl ks)), (m2, .inl (cI, 80, .inl ns)), (m3, .inl (cI, 80, .inl ds)), (m4, .inl (cI, 80, .inl ss))] (fun r u => r = nI d0 ∧ u = [(g, .inr (6, [.ref mP, .int cash, .int (nI n1), .ref mS, .ref mK, .ref mL, .ref mT, .ref mZ, .ref mD, .ref mH, .ref mG, .ref mC, .int cuts, .int (nI (l0 + 1)), .ref m1, .ref m2, .ref m3, .ref m4, .ref mB, .int siz, .int ctr, .ref mX, .ref mY])), (mS, .inl (cI, 8, .inl st)), (mL, .inl (cZ, 8, .inl su)), (mZ, .inl (cI, 8, .inl zz)), (mD, .inl (cI, 72, .inl dd)), (mT, .inl (cI, 8, .inl tt)), (mG, .inl (cZ, 72, .inl (upd gg (9 * k0 + j) 1))), (mH, .inl (cI, 72, .inl (upd hh (9 * k0 + j) x))), (m1, .inl (cI, 80, .inl (upd ks l0 (5)))), (m2, .inl (cI, 80, .inl (upd ns l0 (nI k0)))), (m3, .inl (cI, 80, .inl (upd ds l0 (nI j)))), (m4, .inl (cI, 80, .inl (upd ss l0 (fMix (fMix (fMix (jBef ss l0) (5)) (nI k0)) (nI j)))))]) := by
  intro sz
  refine x_ofW (Qc := fun A => va_Qi _ (xB D A) A) sz (by decide) (Nat.le_of_ble_eq_true rfl) ?_
  intro p e s m args below meth c A ls S hr hlk hnm hw hl
  obtain ⟨hx, hb, hml, hown, hts⟩ := id S
  have hl : lv_has ls 5 [(0, .ref g), (1, .int (nI k0)), (2, .int (nI j)), (3, .int x)] := hl
  refine lv_aload_n hx hb dMO_give_0 rfl (lv_at hl 0 rfl) ?_
  refine lv_iload_n hx hb dMO_give_1 rfl (lv_at hl 1 rfl) ?_
  refine x_calliD (ws' := [(g, .inr (6, [.ref mP, .int cash, .int (nI n1), .ref mS, .ref mK, .ref mL, .ref mT, .ref mZ, .ref mD, .ref mH, .ref mG, .ref mC, .int cuts, .int (nI l0), .ref m1, .ref m2, .ref m3, .ref m4, .ref mB, .int siz, .int ctr, .ref mX, .ref mY])), (mS, .inl (cI, 8, .inl st)), (mL, .inl (cZ, 8, .inl su)), (mZ, .inl (cI, 8, .inl zz)), (mD, .inl (cI, 72, .inl dd)), (mT, .inl (cI, 8, .inl tt)), (mG, .inl (cZ, 72, .inl gg)), (mH, .inl (cI, 72, .inl hh)), (m1, .inl (cI, 80, .inl ks)), (m2, .inl (cI, 80, .inl ns)), (m3, .inl (cI, 80, .inl ds)), (m4, .inl (cI, 80, .inl ss))]) hw [0] rfl rfl (x_runV (n := 1) (rest := []) (As := [.int (nI k0)]) S hw (m_none_n l D cI cZ cV g mP mS mK mL mT mZ mD mH mG mC m1 m2 m3 m4 mB mX mY cash cuts (nI l0) siz ctr n1 k0 hk _) xh_3_19 xh_3_16 xh_3_18 xsel_MO_none xh_1_6 (by decide +kernel) ⟨by decide, by decide⟩ [0] rfl rfl (ci := 6) (q0 := 0) rfl rfl rfl hl.1 rfl (Nat.le_of_ble_eq_true rfl) dMO_give_2 ⟨by decide, by decide⟩) rfl rfl (fun H locs hw => ?_)
  refine lv_if_eq (tgt := 10) hx hb dMO_give_5 (by decide) (fun h5 => ?_) (fun h5 => absurd rfl h5)
  refine lv_aload_n hx hb dMO_give_10 rfl (lv_at hl 0 rfl) ?_
  refine x_get S hw (C := RMO) (T := TMO) (N := 23) inMO 0 rfl rfl 3 (by decide) xh_2_148 (v := .ref mS) rfl dMO_give_11 ?_
  refine lv_iload_n hx hb dMO_give_14 rfl (lv_at hl 1 rfl) ?_
  refine x_iald S hw 1 0 rfl rfl (j := k0) (vp_in_nI (by omega) (by omega)) (nI_clamp (by omega)) dMO_give_15 ?_
  refine lv_iconst (v := 3) hx hb dMO_give_16 (by decide) ?_
  refine lv_icmp_ne (tgt := 23) hx hb dMO_give_17 (by decide) (fun h17 => ?_) (fun h17 => absurd h17 hs)
  refine lv_aload_n hx hb dMO_give_23 rfl (lv_at hl 0 rfl) ?_
  refine x_get S hw (C := RMO) (T := TMO) (N := 23) inMO 0 rfl rfl 5 (by decide) xh_2_150 (v := .ref mL) rfl dMO_give_24 ?_
  refine lv_iload_n hx hb dMO_give_27 rfl (lv_at hl 1 rfl) ?_
  refine x_zald S hw 2 1 rfl rfl (j := k0) (vp_in_nI (by omega) (by omega)) (nI_clamp (by omega)) dMO_give_28 ?_
  refine lv_if_ne (tgt := 35) hx hb dMO_give_29 (by decide) (fun h29 => ?_) (fun h29 => absurd h29 hl9)
  refine lv_iload_n hx hb dMO_give_35 rfl (lv_at hl 2 rfl) ?_
  refine lv_iconst (v := 1) hx hb dMO_give_36 (by decide) ?_
  refine lv_icmp_lt (tgt := 73) hx hb dMO_give_37 (by decide) (fun h37 => absurd h37 (nI_nlt (b := 1) (by omega) (by omega))) (fun h37 => ?_)
  refine lv_iload_n hx hb dMO_give_40 rfl (lv_at hl 2 rfl) ?_
  refine lv_aload_n hx hb dMO_give_41 rfl (lv_at hl 0 rfl) ?_
  refine x_get S hw (C := RMO) (T := TMO) (N := 23) inMO 0 rfl rfl 7 (by decide) xh_2_152 (v := .ref mZ) rfl dMO_give_42 ?_
  refine lv_iload_n hx hb dMO_give_45 rfl (lv_at hl 1 rfl) ?_
  refine x_iald S hw 3 0 rfl rfl (j := k0) (vp_in_nI (by omega) (by omega)) (nI_clamp (by omega)) dMO_give_46 ?_
  refine lv_icmp_gt (tgt := 73) hx hb dMO_give_47 (by decide) (fun h47 => absurd h47 hsc) (fun h47 => ?_)
  refine lv_aload_n hx hb dMO_give_50 rfl (lv_at hl 0 rfl) ?_
  refine x_get S hw (C := RMO) (T := TMO) (N := 23) inMO 0 rfl rfl 8 (by decide) xh_2_153 (v := .ref mD) rfl dMO_give_51 ?_
  refine lv_bipush (v := 9) hx hb dMO_give_54 (by decide) ?_
  refine lv_iload_n hx hb dMO_give_56 rfl (lv_at hl 1 rfl) ?_
  refine lv_imul hx hb dMO_give_57 ?_
  refine lv_iload_n hx hb dMO_give_58 rfl (lv_at hl 2 rfl) ?_
  refine lv_iadd hx hb dMO_give_59 ?_
  refine x_topi (y := nI (9 * k0 + j)) (ix9 _ _) ?_
  refine x_iald S hw 4 0 rfl rfl (j := (9 * k0 + j)) (vp_in_nI (by omega) (by omega)) (nI_clamp (by omega)) dMO_give_60 ?_
  refine lv_iconst (v := 5) hx hb dMO_give_61 (by decide) ?_
  refine lv_iload_n hx hb dMO_give_62 rfl (lv_at hl 2 rfl) ?_
  refine x_calliD (ws' := [(g, .inr (6, [.ref mP, .int cash, .int (nI n1), .ref mS, .ref mK, .ref mL, .ref mT, .ref mZ, .ref mD, .ref mH, .ref mG, .ref mC, .int cuts, .int (nI l0), .ref m1, .ref m2, .ref m3, .ref m4, .ref mB, .int siz, .int ctr, .ref mX, .ref mY])), (mS, .inl (cI, 8, .inl st)), (mL, .inl (cZ, 8, .inl su)), (mZ, .inl (cI, 8, .inl zz)), (mD, .inl (cI, 72, .inl dd)), (mT, .inl (cI, 8, .inl tt)), (mG, .inl (cZ, 72, .inl gg)), (mH, .inl (cI, 72, .inl hh)), (m1, .inl (cI, 80, .inl ks)), (m2, .inl (cI, 80, .inl ns)), (m3, .inl (cI, 80, .inl ds)), (m4, .inl (cI, 80, .inl ss))]) hw [] rfl rfl (x_runS (n := 2) (rest := [.int (dd (9 * k0 + j))]) (As := [.int 5, .int (nI j)]) S hw (m_mix l D cI cZ cV 5 (nI j) _) xh_3_9 xh_3_7 xh_3_8 xh_1_6 (by decide +kernel) ⟨by decide, by decide⟩ [] rfl rfl rfl hl.1 rfl (Nat.le_of_ble_eq_true rfl) dMO_give_63 ⟨by decide, by decide⟩) rfl rfl (fun H locs hw => ?_)
  refine lv_iload_n hx hb dMO_give_66 rfl (lv_at hl 3 rfl) ?_
  refine x_calliD (ws' := [(g, .inr (6, [.ref mP, .int cash, .int (nI n1), .ref mS, .ref mK, .ref mL, .ref mT, .ref mZ, .ref mD, .ref mH, .ref mG, .ref mC, .int cuts, .int (nI l0), .ref m1, .ref m2, .ref m3, .ref m4, .ref mB, .int siz, .int ctr, .ref mX, .ref mY])), (mS, .inl (cI, 8, .inl st)), (mL, .inl (cZ, 8, .inl su)), (mZ, .inl (cI, 8, .inl zz)), (mD, .inl (cI, 72, .inl dd)), (mT, .inl (cI, 8, .inl tt)), (mG, .inl (cZ, 72, .inl gg)), (mH, .inl (cI, 72, .inl hh)), (m1, .inl (cI, 80, .inl ks)), (m2, .inl (cI, 80, .inl ns)), (m3, .inl (cI, 80, .inl ds)), (m4, .inl (cI, 80, .inl ss))]) hw [] rfl rfl (x_runS (n := 2) (rest := [.int (dd (9 * k0 + j))]) (As := [.int (fMix 5 (nI j)), .int x]) S hw (m_mix l D cI cZ cV (fMix 5 (nI j)) x _) xh_3_9 xh_3_7 xh_3_8 xh_1_6 (by decide +kernel) ⟨by decide, by decide⟩ [] rfl rfl rfl hl.1 rfl (Nat.le_of_ble_eq_true rfl) dMO_give_67 ⟨by decide, by decide⟩) rfl rfl (fun H locs hw => ?_)
  refine lv_icmp_eq (tgt := 76) hx hb dMO_give_70 (by decide) (fun h70 => ?_) (fun h70 => absurd hd h70)
  refine lv_aload_n hx hb dMO_give_76 rfl (lv_at hl 0 rfl) ?_
  refine x_get S hw (C := RMO) (T := TMO) (N := 23) inMO 0 rfl rfl 6 (by decide) xh_2_151 (v := .ref mT) rfl dMO_give_77 ?_
  refine lv_iload_n hx hb dMO_give_80 rfl (lv_at hl 1 rfl) ?_
  refine x_iald S hw 5 0 rfl rfl (j := k0) (vp_in_nI (by omega) (by omega)) (nI_clamp (by omega)) dMO_give_81 ?_
  refine lv_aload_n hx hb dMO_give_82 rfl (lv_at hl 0 rfl) ?_
  refine lv_iload_n hx hb dMO_give_83 rfl (lv_at hl 1 rfl) ?_
  refine x_calliD (ws' := [(g, .inr (6, [.ref mP, .int cash, .int (nI n1), .ref mS, .ref mK, .ref mL, .ref mT, .ref mZ, .ref mD, .ref mH, .ref mG, .ref mC, .int cuts, .int (nI l0), .ref m1, .ref m2, .ref m3, .ref m4, .ref mB, .int siz, .int ctr, .ref mX, .ref mY])), (mS, .inl (cI, 8, .inl st)), (mL, .inl (cZ, 8, .inl su)), (mZ, .inl (cI, 8, .inl zz)), (mD, .inl (cI, 72, .inl dd)), (mT, .inl (cI, 8, .inl tt)), (mG, .inl (cZ, 72, .inl gg)), (mH, .inl (cI, 72, .inl hh)), (m1, .inl (cI, 80, .inl ks)), (m2, .inl (cI, 80, .inl ns)), (m3, .inl (cI, 80, .inl ds)), (m4, .inl (cI, 80, .inl ss))]) hw [0, 6] rfl rfl (x_runV (n := 1) (rest := [.int (tt k0)]) (As := [.int (nI k0)]) S hw (m_givenTo l D cI cZ cV g mP mS mK mL mT mZ mD mH mG mC m1 m2 m3 m4 mB mX mY cash (nI n1) cuts (nI l0) siz ctr gg k0 (by omega) _) xh_3_46 xh_3_43 xh_3_45 xsel_MO_givenTo xh_1_6 (by decide +kernel) ⟨by decide, by decide⟩ [0, 6] rfl rfl (ci := 6) (q0 := 0) rfl rfl rfl hl.1 rfl (Nat.le_of_ble_eq_true rfl) dMO_give_84 ⟨by decide, by decide⟩) rfl rfl (fun H locs hw => ?_)
  refine lv_isub hx hb dMO_give_87 ?_
  refine x_topi (y := nI (d0 + 1)) (by rw [ht, hg0, pk_sub (by omega), show g0 + d0 + 1 - g0 = d0 + 1 by omega]) ?_
  refine lv_istore (lv' := [(4, .int (nI (d0 + 1))), (0, .ref g), (1, .int (nI k0)), (2, .int (nI j)), (3, .int x)]) hx hb dMO_give_88 hl (by decide) rfl (fun ls hl => ?_)
  refine lv_aload_n hx hb dMO_give_90 rfl (lv_at hl 1 rfl) ?_
  refine x_get S hw (C := RMO) (T := TMO) (N := 23) inMO 0 rfl rfl 10 (by decide) xh_2_155 (v := .ref mG) rfl dMO_give_91 ?_
  refine lv_bipush (v := 9) hx hb dMO_give_94 (by decide) ?_
  refine lv_iload_n hx hb dMO_give_96 rfl (lv_at hl 2 rfl) ?_
  refine lv_imul hx hb dMO_give_97 ?_
  refine lv_iload_n hx hb dMO_give_98 rfl (lv_at hl 3 rfl) ?_
  refine lv_iadd hx hb dMO_give_99 ?_
  refine x_topi (y := nI (9 * k0 + j)) (ix9 _ _) ?_
  refine x_zald S hw 6 1 rfl rfl (j := (9 * k0 + j)) (vp_in_nI (by omega) (by omega)) (nI_clamp (by omega)) dMO_give_100 ?_
  refine lv_if_eq (tgt := 107) hx hb dMO_give_101 (by decide) (fun h101 => ?_) (fun h101 => absurd hg h101)
  refine lv_aload_n hx hb dMO_give_107 rfl (lv_at hl 1 rfl) ?_
  refine x_get S hw (C := RMO) (T := TMO) (N := 23) inMO 0 rfl rfl 13 (by decide) xh_2_158 (v := .int (nI l0)) rfl dMO_give_108 ?_
  refine lv_iload hx hb dMO_give_111 (lv_at hl 0 rfl) ?_
  refine lv_iconst (v := 1) hx hb dMO_give_113 (by decide) ?_
  refine lv_icmp_ne (tgt := 121) hx hb dMO_give_114 (by decide) (fun h114 => ?_) (fun h114 => absurd h114 (fun e => by have := (nI_eq (a := d0 + 1) (b := 1) (by omega) (by omega)).mp e; omega))
  refine lv_iconst (v := 1) hx hb dMO_give_121 (by decide) ?_
  refine lv_iadd hx hb dMO_give_122 ?_
  refine x_topi (y := nI (l0 + 1)) ((nI_succ _).symm) ?_
  refine lv_bipush (v := 80) hx hb dMO_give_123 (by decide) ?_
  refine lv_icmp_le (tgt := 131) hx hb dMO_give_125 (by decide) (fun h125 => ?_) (fun h125 => absurd (nI_le (b := 80) (by omega) (by decide)) h125)
  refine lv_aload_n hx hb dMO_give_131 rfl (lv_at hl 1 rfl) ?_
  refine x_get S hw (C := RMO) (T := TMO) (N := 23) inMO 0 rfl rfl 10 (by decide) xh_2_155 (v := .ref mG) rfl dMO_give_132 ?_
  refine lv_bipush (v := 9) hx hb dMO_give_135 (by decide) ?_
  refine lv_iload_n hx hb dMO_give_137 rfl (lv_at hl 2 rfl) ?_
  refine lv_imul hx hb dMO_give_138 ?_
  refine lv_iload_n hx hb dMO_give_139 rfl (lv_at hl 3 rfl) ?_
  refine lv_iadd hx hb dMO_give_140 ?_
  refine x_topi (y := nI (9 * k0 + j)) (ix9 _ _) ?_
  refine lv_iconst (v := 1) hx hb dMO_give_141 (by decide) ?_
  refine x_zast S hw 6 1 rfl rfl (j := (9 * k0 + j)) (vp_in_nI (by omega) (by omega)) (nI_clamp (by omega)) rfl (ws' := [(g, .inr (6, [.ref mP, .int cash, .int (nI n1), .ref mS, .ref mK, .ref mL, .ref mT, .ref mZ, .ref mD, .ref mH, .ref mG, .ref mC, .int cuts, .int (nI l0), .ref m1, .ref m2, .ref m3, .ref m4, .ref mB, .int siz, .int ctr, .ref mX, .ref mY])), (mS, .inl (cI, 8, .inl st)), (mL, .inl (cZ, 8, .inl su)), (mZ, .inl (cI, 8, .inl zz)), (mD, .inl (cI, 72, .inl dd)), (mT, .inl (cI, 8, .inl tt)), (mG, .inl (cZ, 72, .inl (upd gg (9 * k0 + j) 1))), (mH, .inl (cI, 72, .inl hh)), (m1, .inl (cI, 80, .inl ks)), (m2, .inl (cI, 80, .inl ns)), (m3, .inl (cI, 80, .inl ds)), (m4, .inl (cI, 80, .inl ss))]) rfl dMO_give_142 (fun H locs hw => ?_)
  refine lv_aload_n hx hb dMO_give_143 rfl (lv_at hl 1 rfl) ?_
  refine x_get S hw (C := RMO) (T := TMO) (N := 23) inMO 0 rfl rfl 9 (by decide) xh_2_154 (v := .ref mH) rfl dMO_give_144 ?_
  refine lv_bipush (v := 9) hx hb dMO_give_147 (by decide) ?_
  refine lv_iload_n hx hb dMO_give_149 rfl (lv_at hl 2 rfl) ?_
  refine lv_imul hx hb dMO_give_150 ?_
  refine lv_iload_n hx hb dMO_give_151 rfl (lv_at hl 3 rfl) ?_
  refine lv_iadd hx hb dMO_give_152 ?_
  refine x_topi (y := nI (9 * k0 + j)) (ix9 _ _) ?_
  refine lv_iload_n hx hb dMO_give_153 rfl (lv_at hl 4 rfl) ?_
  refine x_iast S hw 7 0 rfl rfl (j := (9 * k0 + j)) (vp_in_nI (by omega) (by omega)) (nI_clamp (by omega)) (ws' := [(g, .inr (6, [.ref mP, .int cash, .int (nI n1), .ref mS, .ref mK, .ref mL, .ref mT, .ref mZ, .ref mD, .ref mH, .ref mG, .ref mC, .int cuts, .int (nI l0), .ref m1, .ref m2, .ref m3, .ref m4, .ref mB, .int siz, .int ctr, .ref mX, .ref mY])), (mS, .inl (cI, 8, .inl st)), (mL, .inl (cZ, 8, .inl su)), (mZ, .inl (cI, 8, .inl zz)), (mD, .inl (cI, 72, .inl dd)), (mT, .inl (cI, 8, .inl tt)), (mG, .inl (cZ, 72, .inl (upd gg (9 * k0 + j) 1))), (mH, .inl (cI, 72, .inl (upd hh (9 * k0 + j) x))), (m1, .inl (cI, 80, .inl ks)), (m2, .inl (cI, 80, .inl ns)), (m3, .inl (cI, 80, .inl ds)), (m4, .inl (cI, 80, .inl ss))]) rfl dMO_give_154 (fun H locs hw => ?_)
  refine lv_aload_n hx hb dMO_give_155 rfl (lv_at hl 1 rfl) ?_
  refine lv_iconst (v := 5) hx hb dMO_give_156 (by decide) ?_
  refine lv_iload_n hx hb dMO_give_157 rfl (lv_at hl 2 rfl) ?_
  refine lv_iload_n hx hb dMO_give_158 rfl (lv_at hl 3 rfl) ?_
  refine x_callvD (ws' := [(g, .inr (6, [.ref mP, .int cash, .int (nI n1), .ref mS, .ref mK, .ref mL, .ref mT, .ref mZ, .ref mD, .ref mH, .ref mG, .ref mC, .int cuts, .int (nI (l0 + 1)), .ref m1, .ref m2, .ref m3, .ref m4, .ref mB, .int siz, .int ctr, .ref mX, .ref mY])), (mS, .inl (cI, 8, .inl st)), (mL, .inl (cZ, 8, .inl su)), (mZ, .inl (cI, 8, .inl zz)), (mD, .inl (cI, 72, .inl dd)), (mT, .inl (cI, 8, .inl tt)), (mG, .inl (cZ, 72, .inl (upd gg (9 * k0 + j) 1))), (mH, .inl (cI, 72, .inl (upd hh (9 * k0 + j) x))), (m1, .inl (cI, 80, .inl (upd ks l0 5))), (m2, .inl (cI, 80, .inl (upd ns l0 (nI k0)))), (m3, .inl (cI, 80, .inl (upd ds l0 (nI j)))), (m4, .inl (cI, 80, .inl (upd ss l0 (fMix (fMix (fMix (jBef ss l0) 5) (nI k0)) (nI j)))))]) hw [0, 8, 9, 10, 11] rfl rfl (x_runV (n := 3) (rest := []) (As := [.int 5, .int (nI k0), .int (nI j)]) S hw (m_write l D cI cZ cV g mP mS mK mL mT mZ mD mH mG mC m1 m2 m3 m4 mB mX mY cash (nI n1) cuts siz ctr ks ns ds ss l0 5 (nI k0) (nI j) hc _) xh_3_6 xh_3_3 xh_3_5 xsel_MO_write xh_1_6 (by decide +kernel) ⟨by decide, by decide⟩ [0, 8, 9, 10, 11] rfl rfl (ci := 6) (q0 := 0) rfl rfl rfl hl.1 rfl (Nat.le_of_ble_eq_true rfl) dMO_give_159 ⟨by decide, by decide⟩) rfl rfl (fun H locs hw => ?_)
  refine lv_iload hx hb dMO_give_162 (lv_at hl 0 rfl) ?_
  refine lv_iconst (v := 1) hx hb dMO_give_164 (by decide) ?_
  refine lv_icmp_ne (tgt := 204) hx hb dMO_give_165 (by decide) (fun h165 => ?_) (fun h165 => absurd h165 (fun e => by have := (nI_eq (a := d0 + 1) (b := 1) (by omega) (by omega)).mp e; omega))
  refine lv_iload hx hb dMO_give_204 (lv_at hl 0 rfl) ?_
  refine lv_iconst (v := 1) hx hb dMO_give_206 (by decide) ?_
  refine lv_isub hx hb dMO_give_207 ?_
  refine x_topi (y := nI d0) (nI_pred d0) ?_
  exact x_iret S hr hlk hw (by decide) (by decide) (⟨rfl, rfl⟩) dMO_give_208

set_option maxHeartbeats 4000000 in
set_option maxRecDepth 100000 in
theorem m_giv_full2 (l : Launch) (D : va_G) (cI cZ cV : ClassId) (g : Nat) (mP : Nat) (mS : Nat) (mK : Nat) (mL : Nat) (mT : Nat) (mZ : Nat) (mD : Nat) (mH : Nat) (mG : Nat) (mC : Nat) (m1 : Nat) (m2 : Nat) (m3 : Nat) (m4 : Nat) (mB : Nat) (mX : Nat) (mY : Nat) (cash : Int32) (cuts : Int32) (siz : Int32) (ctr : Int32) (n1 : Nat) (k0 : Nat) (l0 : Nat) (st : Nat → Int32) (su : Nat → Int32) (zz : Nat → Int32) (dd : Nat → Int32) (tt : Nat → Int32) (gg : Nat → Int32) (j : Nat) (g0 : Nat) (x : Int32) (hk : k0 < n1 ∧ n1 ≤ 8) (hs : ¬ st k0 = 3) (hl9 : ¬ su k0 = 0) (hj : 1 ≤ j ∧ j ≤ 8) (hsc : ¬ zz k0 < nI j) (hd : dd (9 * k0 + j) = fDig (nI j) x) (ht : tt k0 = nI (g0 + 0 + 1)) (hg0 : gtF gg k0 8 = g0) (hg : gg (9 * k0 + j) = 0) (hc : 79 ≤ l0 ∧ l0 ≤ 80) : XI l yMO_give cMO_give 5 (some .int) D (xT3 cI cZ cV) 1 0 0 [.ref g, .int (nI k0), .int (nI j), .int x] [(g, .inr (6, [.ref mP, .int cash, .int (nI n1), .ref mS, .ref mK, .ref mL, .ref mT, .ref mZ, .ref mD, .ref mH, .ref mG, .ref mC, .int cuts, .int (nI l0), .ref m1, .ref m2, .ref m3, .ref m4, .ref mB, .int siz, .int ctr, .ref mX, .ref mY])), (mS, .inl (cI, 8, .inl st)), (mL, .inl (cZ, 8, .inl su)), (mZ, .inl (cI, 8, .inl zz)), (mD, .inl (cI, 72, .inl dd)), (mT, .inl (cI, 8, .inl tt)), (mG, .inl (cZ, 72, .inl gg))] (fun r u => r = -2 ∧ u = [(g, .inr (6, [.ref mP, .int cash, .int (nI n1), .ref mS, .ref mK, .ref mL, .ref mT, .ref mZ, .ref mD, .ref mH, .ref mG, .ref mC, .int cuts, .int (nI l0), .ref m1, .ref m2, .ref m3, .ref m4, .ref mB, .int siz, .int ctr, .ref mX, .ref mY])), (mS, .inl (cI, 8, .inl st)), (mL, .inl (cZ, 8, .inl su)), (mZ, .inl (cI, 8, .inl zz)), (mD, .inl (cI, 72, .inl dd)), (mT, .inl (cI, 8, .inl tt)), (mG, .inl (cZ, 72, .inl gg))]) := by
  intro sz
  refine x_ofW (Qc := fun A => va_Qi _ (xB D A) A) sz (by decide) (Nat.le_of_ble_eq_true rfl) ?_
  intro p e s m args below meth c A ls S hr hlk hnm hw hl
  obtain ⟨hx, hb, hml, hown, hts⟩ := id S
  have hl : lv_has ls 5 [(0, .ref g), (1, .int (nI k0)), (2, .int (nI j)), (3, .int x)] := hl
  refine lv_aload_n hx hb dMO_give_0 rfl (lv_at hl 0 rfl) ?_
  refine lv_iload_n hx hb dMO_give_1 rfl (lv_at hl 1 rfl) ?_
  refine x_calliD (ws' := [(g, .inr (6, [.ref mP, .int cash, .int (nI n1), .ref mS, .ref mK, .ref mL, .ref mT, .ref mZ, .ref mD, .ref mH, .ref mG, .ref mC, .int cuts, .int (nI l0), .ref m1, .ref m2, .ref m3, .ref m4, .ref mB, .int siz, .int ctr, .ref mX, .ref mY])), (mS, .inl (cI, 8, .inl st)), (mL, .inl (cZ, 8, .inl su)), (mZ, .inl (cI, 8, .inl zz)), (mD, .inl (cI, 72, .inl dd)), (mT, .inl (cI, 8, .inl tt)), (mG, .inl (cZ, 72, .inl gg))]) hw [0] rfl rfl (x_runV (n := 1) (rest := []) (As := [.int (nI k0)]) S hw (m_none_n l D cI cZ cV g mP mS mK mL mT mZ mD mH mG mC m1 m2 m3 m4 mB mX mY cash cuts (nI l0) siz ctr n1 k0 hk _) xh_3_19 xh_3_16 xh_3_18 xsel_MO_none xh_1_6 (by decide +kernel) ⟨by decide, by decide⟩ [0] rfl rfl (ci := 6) (q0 := 0) rfl rfl rfl hl.1 rfl (Nat.le_of_ble_eq_true rfl) dMO_give_2 ⟨by decide, by decide⟩) rfl rfl (fun H locs hw => ?_)
  refine lv_if_eq (tgt := 10) hx hb dMO_give_5 (by decide) (fun h5 => ?_) (fun h5 => absurd rfl h5)
  refine lv_aload_n hx hb dMO_give_10 rfl (lv_at hl 0 rfl) ?_
  refine x_get S hw (C := RMO) (T := TMO) (N := 23) inMO 0 rfl rfl 3 (by decide) xh_2_148 (v := .ref mS) rfl dMO_give_11 ?_
  refine lv_iload_n hx hb dMO_give_14 rfl (lv_at hl 1 rfl) ?_
  refine x_iald S hw 1 0 rfl rfl (j := k0) (vp_in_nI (by omega) (by omega)) (nI_clamp (by omega)) dMO_give_15 ?_
  refine lv_iconst (v := 3) hx hb dMO_give_16 (by decide) ?_
  refine lv_icmp_ne (tgt := 23) hx hb dMO_give_17 (by decide) (fun h17 => ?_) (fun h17 => absurd h17 hs)
  refine lv_aload_n hx hb dMO_give_23 rfl (lv_at hl 0 rfl) ?_
  refine x_get S hw (C := RMO) (T := TMO) (N := 23) inMO 0 rfl rfl 5 (by decide) xh_2_150 (v := .ref mL) rfl dMO_give_24 ?_
  refine lv_iload_n hx hb dMO_give_27 rfl (lv_at hl 1 rfl) ?_
  refine x_zald S hw 2 1 rfl rfl (j := k0) (vp_in_nI (by omega) (by omega)) (nI_clamp (by omega)) dMO_give_28 ?_
  refine lv_if_ne (tgt := 35) hx hb dMO_give_29 (by decide) (fun h29 => ?_) (fun h29 => absurd h29 hl9)
  refine lv_iload_n hx hb dMO_give_35 rfl (lv_at hl 2 rfl) ?_
  refine lv_iconst (v := 1) hx hb dMO_give_36 (by decide) ?_
  refine lv_icmp_lt (tgt := 73) hx hb dMO_give_37 (by decide) (fun h37 => absurd h37 (nI_nlt (b := 1) (by omega) (by omega))) (fun h37 => ?_)
  refine lv_iload_n hx hb dMO_give_40 rfl (lv_at hl 2 rfl) ?_
  refine lv_aload_n hx hb dMO_give_41 rfl (lv_at hl 0 rfl) ?_
  refine x_get S hw (C := RMO) (T := TMO) (N := 23) inMO 0 rfl rfl 7 (by decide) xh_2_152 (v := .ref mZ) rfl dMO_give_42 ?_
  refine lv_iload_n hx hb dMO_give_45 rfl (lv_at hl 1 rfl) ?_
  refine x_iald S hw 3 0 rfl rfl (j := k0) (vp_in_nI (by omega) (by omega)) (nI_clamp (by omega)) dMO_give_46 ?_
  refine lv_icmp_gt (tgt := 73) hx hb dMO_give_47 (by decide) (fun h47 => absurd h47 hsc) (fun h47 => ?_)
  refine lv_aload_n hx hb dMO_give_50 rfl (lv_at hl 0 rfl) ?_
  refine x_get S hw (C := RMO) (T := TMO) (N := 23) inMO 0 rfl rfl 8 (by decide) xh_2_153 (v := .ref mD) rfl dMO_give_51 ?_
  refine lv_bipush (v := 9) hx hb dMO_give_54 (by decide) ?_
  refine lv_iload_n hx hb dMO_give_56 rfl (lv_at hl 1 rfl) ?_
  refine lv_imul hx hb dMO_give_57 ?_
  refine lv_iload_n hx hb dMO_give_58 rfl (lv_at hl 2 rfl) ?_
  refine lv_iadd hx hb dMO_give_59 ?_
  refine x_topi (y := nI (9 * k0 + j)) (ix9 _ _) ?_
  refine x_iald S hw 4 0 rfl rfl (j := (9 * k0 + j)) (vp_in_nI (by omega) (by omega)) (nI_clamp (by omega)) dMO_give_60 ?_
  refine lv_iconst (v := 5) hx hb dMO_give_61 (by decide) ?_
  refine lv_iload_n hx hb dMO_give_62 rfl (lv_at hl 2 rfl) ?_
  refine x_calliD (ws' := [(g, .inr (6, [.ref mP, .int cash, .int (nI n1), .ref mS, .ref mK, .ref mL, .ref mT, .ref mZ, .ref mD, .ref mH, .ref mG, .ref mC, .int cuts, .int (nI l0), .ref m1, .ref m2, .ref m3, .ref m4, .ref mB, .int siz, .int ctr, .ref mX, .ref mY])), (mS, .inl (cI, 8, .inl st)), (mL, .inl (cZ, 8, .inl su)), (mZ, .inl (cI, 8, .inl zz)), (mD, .inl (cI, 72, .inl dd)), (mT, .inl (cI, 8, .inl tt)), (mG, .inl (cZ, 72, .inl gg))]) hw [] rfl rfl (x_runS (n := 2) (rest := [.int (dd (9 * k0 + j))]) (As := [.int 5, .int (nI j)]) S hw (m_mix l D cI cZ cV 5 (nI j) _) xh_3_9 xh_3_7 xh_3_8 xh_1_6 (by decide +kernel) ⟨by decide, by decide⟩ [] rfl rfl rfl hl.1 rfl (Nat.le_of_ble_eq_true rfl) dMO_give_63 ⟨by decide, by decide⟩) rfl rfl (fun H locs hw => ?_)
  refine lv_iload_n hx hb dMO_give_66 rfl (lv_at hl 3 rfl) ?_
  refine x_calliD (ws' := [(g, .inr (6, [.ref mP, .int cash, .int (nI n1), .ref mS, .ref mK, .ref mL, .ref mT, .ref mZ, .ref mD, .ref mH, .ref mG, .ref mC, .int cuts, .int (nI l0), .ref m1, .ref m2, .ref m3, .ref m4, .ref mB, .int siz, .int ctr, .ref mX, .ref mY])), (mS, .inl (cI, 8, .inl st)), (mL, .inl (cZ, 8, .inl su)), (mZ, .inl (cI, 8, .inl zz)), (mD, .inl (cI, 72, .inl dd)), (mT, .inl (cI, 8, .inl tt)), (mG, .inl (cZ, 72, .inl gg))]) hw [] rfl rfl (x_runS (n := 2) (rest := [.int (dd (9 * k0 + j))]) (As := [.int (fMix 5 (nI j)), .int x]) S hw (m_mix l D cI cZ cV (fMix 5 (nI j)) x _) xh_3_9 xh_3_7 xh_3_8 xh_1_6 (by decide +kernel) ⟨by decide, by decide⟩ [] rfl rfl rfl hl.1 rfl (Nat.le_of_ble_eq_true rfl) dMO_give_67 ⟨by decide, by decide⟩) rfl rfl (fun H locs hw => ?_)
  refine lv_icmp_eq (tgt := 76) hx hb dMO_give_70 (by decide) (fun h70 => ?_) (fun h70 => absurd hd h70)
  refine lv_aload_n hx hb dMO_give_76 rfl (lv_at hl 0 rfl) ?_
  refine x_get S hw (C := RMO) (T := TMO) (N := 23) inMO 0 rfl rfl 6 (by decide) xh_2_151 (v := .ref mT) rfl dMO_give_77 ?_
  refine lv_iload_n hx hb dMO_give_80 rfl (lv_at hl 1 rfl) ?_
  refine x_iald S hw 5 0 rfl rfl (j := k0) (vp_in_nI (by omega) (by omega)) (nI_clamp (by omega)) dMO_give_81 ?_
  refine lv_aload_n hx hb dMO_give_82 rfl (lv_at hl 0 rfl) ?_
  refine lv_iload_n hx hb dMO_give_83 rfl (lv_at hl 1 rfl) ?_
  refine x_calliD (ws' := [(g, .inr (6, [.ref mP, .int cash, .int (nI n1), .ref mS, .ref mK, .ref mL, .ref mT, .ref mZ, .ref mD, .ref mH, .ref mG, .ref mC, .int cuts, .int (nI l0), .ref m1, .ref m2, .ref m3, .ref m4, .ref mB, .int siz, .int ctr, .ref mX, .ref mY])), (mS, .inl (cI, 8, .inl st)), (mL, .inl (cZ, 8, .inl su)), (mZ, .inl (cI, 8, .inl zz)), (mD, .inl (cI, 72, .inl dd)), (mT, .inl (cI, 8, .inl tt)), (mG, .inl (cZ, 72, .inl gg))]) hw [0, 6] rfl rfl (x_runV (n := 1) (rest := [.int (tt k0)]) (As := [.int (nI k0)]) S hw (m_givenTo l D cI cZ cV g mP mS mK mL mT mZ mD mH mG mC m1 m2 m3 m4 mB mX mY cash (nI n1) cuts (nI l0) siz ctr gg k0 (by omega) _) xh_3_46 xh_3_43 xh_3_45 xsel_MO_givenTo xh_1_6 (by decide +kernel) ⟨by decide, by decide⟩ [0, 6] rfl rfl (ci := 6) (q0 := 0) rfl rfl rfl hl.1 rfl (Nat.le_of_ble_eq_true rfl) dMO_give_84 ⟨by decide, by decide⟩) rfl rfl (fun H locs hw => ?_)
  refine lv_isub hx hb dMO_give_87 ?_
  refine x_topi (y := nI (0 + 1)) (by rw [ht, hg0, pk_sub (by omega), show g0 + 0 + 1 - g0 = 0 + 1 by omega]) ?_
  refine lv_istore (lv' := [(4, .int (nI (0 + 1))), (0, .ref g), (1, .int (nI k0)), (2, .int (nI j)), (3, .int x)]) hx hb dMO_give_88 hl (by decide) rfl (fun ls hl => ?_)
  refine lv_aload_n hx hb dMO_give_90 rfl (lv_at hl 1 rfl) ?_
  refine x_get S hw (C := RMO) (T := TMO) (N := 23) inMO 0 rfl rfl 10 (by decide) xh_2_155 (v := .ref mG) rfl dMO_give_91 ?_
  refine lv_bipush (v := 9) hx hb dMO_give_94 (by decide) ?_
  refine lv_iload_n hx hb dMO_give_96 rfl (lv_at hl 2 rfl) ?_
  refine lv_imul hx hb dMO_give_97 ?_
  refine lv_iload_n hx hb dMO_give_98 rfl (lv_at hl 3 rfl) ?_
  refine lv_iadd hx hb dMO_give_99 ?_
  refine x_topi (y := nI (9 * k0 + j)) (ix9 _ _) ?_
  refine x_zald S hw 6 1 rfl rfl (j := (9 * k0 + j)) (vp_in_nI (by omega) (by omega)) (nI_clamp (by omega)) dMO_give_100 ?_
  refine lv_if_eq (tgt := 107) hx hb dMO_give_101 (by decide) (fun h101 => ?_) (fun h101 => absurd hg h101)
  refine lv_aload_n hx hb dMO_give_107 rfl (lv_at hl 1 rfl) ?_
  refine x_get S hw (C := RMO) (T := TMO) (N := 23) inMO 0 rfl rfl 13 (by decide) xh_2_158 (v := .int (nI l0)) rfl dMO_give_108 ?_
  refine lv_iload hx hb dMO_give_111 (lv_at hl 0 rfl) ?_
  refine lv_iconst (v := 1) hx hb dMO_give_113 (by decide) ?_
  refine lv_icmp_ne (tgt := 121) hx hb dMO_give_114 (by decide) (fun h114 => absurd rfl h114) (fun h114 => ?_)
  refine lv_iconst (v := 2) hx hb dMO_give_117 (by decide) ?_
  refine lv_goto (tgt := 122) hx hb dMO_give_118 (by decide) ?_
  refine lv_iadd hx hb dMO_give_122 ?_
  refine x_topi (y := nI (l0 + 2)) (nI_add l0 2) ?_
  refine lv_bipush (v := 80) hx hb dMO_give_123 (by decide) ?_
  refine lv_icmp_le (tgt := 131) hx hb dMO_give_125 (by decide) (fun h125 => absurd h125 (nI_ge (b := l0 + 2) (a := 80) (by omega) (by omega))) (fun h125 => ?_)
  refine lv_bipush (v := (-2)) hx hb dMO_give_128 (by decide) ?_
  exact x_iret S hr hlk hw (by decide) (by decide) (⟨rfl, rfl⟩) dMO_give_130

set_option maxHeartbeats 4000000 in
set_option maxRecDepth 100000 in
theorem m_giv_open (l : Launch) (D : va_G) (cI cZ cV : ClassId) (g : Nat) (mP : Nat) (mS : Nat) (mK : Nat) (mL : Nat) (mT : Nat) (mZ : Nat) (mD : Nat) (mH : Nat) (mG : Nat) (mC : Nat) (m1 : Nat) (m2 : Nat) (m3 : Nat) (m4 : Nat) (mB : Nat) (mX : Nat) (mY : Nat) (cash : Int32) (cuts : Int32) (siz : Int32) (ctr : Int32) (n1 : Nat) (k0 : Nat) (l0 : Nat) (st : Nat → Int32) (su : Nat → Int32) (zz : Nat → Int32) (dd : Nat → Int32) (tt : Nat → Int32) (gg : Nat → Int32) (hh : Nat → Int32) (ks : Nat → Int32) (ns : Nat → Int32) (ds : Nat → Int32) (ss : Nat → Int32) (se : Nat → Int32) (xx : Nat → Int32) (yy : Nat → Int32) (j : Nat) (g0 : Nat) (x : Int32) (hk : k0 < n1 ∧ n1 ≤ 8) (hs : ¬ st k0 = 3) (hl9 : ¬ su k0 = 0) (hj : 1 ≤ j ∧ j ≤ 8) (hsc : ¬ zz k0 < nI j) (hd : dd (9 * k0 + j) = fDig (nI j) x) (ht : tt k0 = nI (g0 + 0 + 1)) (hg0 : gtF gg k0 8 = g0) (hg : gg (9 * k0 + j) = 0) (hc : l0 + 1 < 80) (hm9 : g0 < 8) (hc9 : ∀ (kb : Int32) (x9 y9 : Nat → Int32), (bdF (upd gg (9 * k0 + j) 1) (upd hh (9 * k0 + j) x) k0 kb x9 y9 8).2.2 = g0 + 1) (hA : ∀ (kb : Int32) (x9 y9 : Nat → Int32), ∀ k l, k + l = g0 → ∀ j9, j9 < l → toN (aiF (bdF (upd gg (9 * k0 + j) 1) (upd hh (9 * k0 + j) x) k0 kb x9 y9 8).1 (aoF (bdF (upd gg (9 * k0 + j) 1) (upd hh (9 * k0 + j) x) k0 kb x9 y9 8).1 (bdF (upd gg (9 * k0 + j) 1) (upd hh (9 * k0 + j) x) k0 kb x9 y9 8).2.1 (g0 + 1) k) l j9 j9 ^^^ aiF (bdF (upd gg (9 * k0 + j) 1) (upd hh (9 * k0 + j) x) k0 kb x9 y9 8).1 (aoF (bdF (upd gg (9 * k0 + j) 1) (upd hh (9 * k0 + j) x) k0 kb x9 y9 8).1 (bdF (upd gg (9 * k0 + j) 1) (upd hh (9 * k0 + j) x) k0 kb x9 y9 8).2.1 (g0 + 1) k) l j9 l) < 256) (hB : ∀ (kb : Int32) (x9 y9 : Nat → Int32), ∀ l j9, j9 < l → l ≤ g0 → 0 < toN ((bdF (upd gg (9 * k0 + j) 1) (upd hh (9 * k0 + j) x) k0 kb x9 y9 8).1 j9 ^^^ (bdF (upd gg (9 * k0 + j) 1) (upd hh (9 * k0 + j) x) k0 kb x9 y9 8).1 l) ∧ toN ((bdF (upd gg (9 * k0 + j) 1) (upd hh (9 * k0 + j) x) k0 kb x9 y9 8).1 j9 ^^^ (bdF (upd gg (9 * k0 + j) 1) (upd hh (9 * k0 + j) x) k0 kb x9 y9 8).1 l) < 16) : XI l yMO_give cMO_give 5 (some .int) D (xT3 cI cZ cV) 4 0 0 [.ref g, .int (nI k0), .int (nI j), .int x] [(g, .inr (6, [.ref mP, .int cash, .int (nI n1), .ref mS, .ref mK, .ref mL, .ref mT, .ref mZ, .ref mD, .ref mH, .ref mG, .ref mC, .int cuts, .int (nI l0), .ref m1, .ref m2, .ref m3, .ref m4, .ref mB, .int siz, .int ctr, .ref mX, .ref mY])), (mS, .inl (cI, 8, .inl st)), (mL, .inl (cZ, 8, .inl su)), (mZ, .inl (cI, 8, .inl zz)), (mD, .inl (cI, 72, .inl dd)), (mT, .inl (cI, 8, .inl tt)), (mG, .inl (cZ, 72, .inl gg)), (mH, .inl (cI, 72, .inl hh)), (m1, .inl (cI, 80, .inl ks)), (m2, .inl (cI, 80, .inl ns)), (m3, .inl (cI, 80, .inl ds)), (m4, .inl (cI, 80, .inl ss)), (mK, .inl (cI, 8, .inl se)), (mX, .inl (cI, 8, .inl xx)), (mY, .inl (cI, 8, .inl yy))] (fun r u => r = 0 ∧ u = [(g, .inr (6, [.ref mP, .int cash, .int (nI n1), .ref mS, .ref mK, .ref mL, .ref mT, .ref mZ, .ref mD, .ref mH, .ref mG, .ref mC, .int cuts, .int (nI (l0 + 1 + 1)), .ref m1, .ref m2, .ref m3, .ref m4, .ref mB, .int siz, .int ctr, .ref mX, .ref mY])), (mS, .inl (cI, 8, .inl st)), (mL, .inl (cZ, 8, .inl (upd su k0 0))), (mZ, .inl (cI, 8, .inl zz)), (mD, .inl (cI, 72, .inl dd)), (mT, .inl (cI, 8, .inl tt)), (mG, .inl (cZ, 72, .inl (dgF (upd gg (9 * k0 + j) 1) k0 9))), (mH, .inl (cI, 72, .inl (upd hh (9 * k0 + j) x))), (m1, .inl (cI, 80, .inl (upd (upd ks l0 (5)) (l0 + 1) 6))), (m2, .inl (cI, 80, .inl (upd (upd ns l0 (nI k0)) (l0 + 1) (nI k0)))), (m3, .inl (cI, 80, .inl (upd (upd ds l0 (nI j)) (l0 + 1) (tt k0)))), (m4, .inl (cI, 80, .inl (upd (upd ss l0 (fMix (fMix (fMix (jBef ss l0) (5)) (nI k0)) (nI j))) (l0 + 1) (fMix (fMix (fMix (jBef (upd ss l0 (fMix (fMix (fMix (jBef ss l0) (5)) (nI k0)) (nI j))) (l0 + 1)) 6) (nI k0)) (tt k0))))), (mK, .inl (cI, 8, .inl (upd se k0 (tgF (upd gg (9 * k0 + j) 1) (upd hh (9 * k0 + j) x) k0 g0 xx yy 4).2.2))), (mX, .inl (cI, 8, .inl ((tgF (upd gg (9 * k0 + j) 1) (upd hh (9 * k0 + j) x) k0 g0 xx yy 4).1))), (mY, .inl (cI, 8, .inl ((tgF (upd gg (9 * k0 + j) 1) (upd hh (9 * k0 + j) x) k0 g0 xx yy 4).2.1)))]) := by
  intro sz
  refine x_ofW (Qc := fun A => va_Qi _ (xB D A) A) sz (by decide) (Nat.le_of_ble_eq_true rfl) ?_
  intro p e s m args below meth c A ls S hr hlk hnm hw hl
  obtain ⟨hx, hb, hml, hown, hts⟩ := id S
  have hl : lv_has ls 5 [(0, .ref g), (1, .int (nI k0)), (2, .int (nI j)), (3, .int x)] := hl
  refine lv_aload_n hx hb dMO_give_0 rfl (lv_at hl 0 rfl) ?_
  refine lv_iload_n hx hb dMO_give_1 rfl (lv_at hl 1 rfl) ?_
  refine x_calliD (ws' := [(g, .inr (6, [.ref mP, .int cash, .int (nI n1), .ref mS, .ref mK, .ref mL, .ref mT, .ref mZ, .ref mD, .ref mH, .ref mG, .ref mC, .int cuts, .int (nI l0), .ref m1, .ref m2, .ref m3, .ref m4, .ref mB, .int siz, .int ctr, .ref mX, .ref mY])), (mS, .inl (cI, 8, .inl st)), (mL, .inl (cZ, 8, .inl su)), (mZ, .inl (cI, 8, .inl zz)), (mD, .inl (cI, 72, .inl dd)), (mT, .inl (cI, 8, .inl tt)), (mG, .inl (cZ, 72, .inl gg)), (mH, .inl (cI, 72, .inl hh)), (m1, .inl (cI, 80, .inl ks)), (m2, .inl (cI, 80, .inl ns)), (m3, .inl (cI, 80, .inl ds)), (m4, .inl (cI, 80, .inl ss)), (mK, .inl (cI, 8, .inl se)), (mX, .inl (cI, 8, .inl xx)), (mY, .inl (cI, 8, .inl yy))]) hw [0] rfl rfl (x_runV (n := 1) (rest := []) (As := [.int (nI k0)]) S hw (m_none_n l D cI cZ cV g mP mS mK mL mT mZ mD mH mG mC m1 m2 m3 m4 mB mX mY cash cuts (nI l0) siz ctr n1 k0 hk _) xh_3_19 xh_3_16 xh_3_18 xsel_MO_none xh_1_6 (by decide +kernel) ⟨by decide, by decide⟩ [0] rfl rfl (ci := 6) (q0 := 0) rfl rfl rfl hl.1 rfl (Nat.le_of_ble_eq_true rfl) dMO_give_2 ⟨by decide, by decide⟩) rfl rfl (fun H locs hw => ?_)
  refine lv_if_eq (tgt := 10) hx hb dMO_give_5 (by decide) (fun h5 => ?_) (fun h5 => absurd rfl h5)
  refine lv_aload_n hx hb dMO_give_10 rfl (lv_at hl 0 rfl) ?_
  refine x_get S hw (C := RMO) (T := TMO) (N := 23) inMO 0 rfl rfl 3 (by decide) xh_2_148 (v := .ref mS) rfl dMO_give_11 ?_
  refine lv_iload_n hx hb dMO_give_14 rfl (lv_at hl 1 rfl) ?_
  refine x_iald S hw 1 0 rfl rfl (j := k0) (vp_in_nI (by omega) (by omega)) (nI_clamp (by omega)) dMO_give_15 ?_
  refine lv_iconst (v := 3) hx hb dMO_give_16 (by decide) ?_
  refine lv_icmp_ne (tgt := 23) hx hb dMO_give_17 (by decide) (fun h17 => ?_) (fun h17 => absurd h17 hs)
  refine lv_aload_n hx hb dMO_give_23 rfl (lv_at hl 0 rfl) ?_
  refine x_get S hw (C := RMO) (T := TMO) (N := 23) inMO 0 rfl rfl 5 (by decide) xh_2_150 (v := .ref mL) rfl dMO_give_24 ?_
  refine lv_iload_n hx hb dMO_give_27 rfl (lv_at hl 1 rfl) ?_
  refine x_zald S hw 2 1 rfl rfl (j := k0) (vp_in_nI (by omega) (by omega)) (nI_clamp (by omega)) dMO_give_28 ?_
  refine lv_if_ne (tgt := 35) hx hb dMO_give_29 (by decide) (fun h29 => ?_) (fun h29 => absurd h29 hl9)
  refine lv_iload_n hx hb dMO_give_35 rfl (lv_at hl 2 rfl) ?_
  refine lv_iconst (v := 1) hx hb dMO_give_36 (by decide) ?_
  refine lv_icmp_lt (tgt := 73) hx hb dMO_give_37 (by decide) (fun h37 => absurd h37 (nI_nlt (b := 1) (by omega) (by omega))) (fun h37 => ?_)
  refine lv_iload_n hx hb dMO_give_40 rfl (lv_at hl 2 rfl) ?_
  refine lv_aload_n hx hb dMO_give_41 rfl (lv_at hl 0 rfl) ?_
  refine x_get S hw (C := RMO) (T := TMO) (N := 23) inMO 0 rfl rfl 7 (by decide) xh_2_152 (v := .ref mZ) rfl dMO_give_42 ?_
  refine lv_iload_n hx hb dMO_give_45 rfl (lv_at hl 1 rfl) ?_
  refine x_iald S hw 3 0 rfl rfl (j := k0) (vp_in_nI (by omega) (by omega)) (nI_clamp (by omega)) dMO_give_46 ?_
  refine lv_icmp_gt (tgt := 73) hx hb dMO_give_47 (by decide) (fun h47 => absurd h47 hsc) (fun h47 => ?_)
  refine lv_aload_n hx hb dMO_give_50 rfl (lv_at hl 0 rfl) ?_
  refine x_get S hw (C := RMO) (T := TMO) (N := 23) inMO 0 rfl rfl 8 (by decide) xh_2_153 (v := .ref mD) rfl dMO_give_51 ?_
  refine lv_bipush (v := 9) hx hb dMO_give_54 (by decide) ?_
  refine lv_iload_n hx hb dMO_give_56 rfl (lv_at hl 1 rfl) ?_
  refine lv_imul hx hb dMO_give_57 ?_
  refine lv_iload_n hx hb dMO_give_58 rfl (lv_at hl 2 rfl) ?_
  refine lv_iadd hx hb dMO_give_59 ?_
  refine x_topi (y := nI (9 * k0 + j)) (ix9 _ _) ?_
  refine x_iald S hw 4 0 rfl rfl (j := (9 * k0 + j)) (vp_in_nI (by omega) (by omega)) (nI_clamp (by omega)) dMO_give_60 ?_
  refine lv_iconst (v := 5) hx hb dMO_give_61 (by decide) ?_
  refine lv_iload_n hx hb dMO_give_62 rfl (lv_at hl 2 rfl) ?_
  refine x_calliD (ws' := [(g, .inr (6, [.ref mP, .int cash, .int (nI n1), .ref mS, .ref mK, .ref mL, .ref mT, .ref mZ, .ref mD, .ref mH, .ref mG, .ref mC, .int cuts, .int (nI l0), .ref m1, .ref m2, .ref m3, .ref m4, .ref mB, .int siz, .int ctr, .ref mX, .ref mY])), (mS, .inl (cI, 8, .inl st)), (mL, .inl (cZ, 8, .inl su)), (mZ, .inl (cI, 8, .inl zz)), (mD, .inl (cI, 72, .inl dd)), (mT, .inl (cI, 8, .inl tt)), (mG, .inl (cZ, 72, .inl gg)), (mH, .inl (cI, 72, .inl hh)), (m1, .inl (cI, 80, .inl ks)), (m2, .inl (cI, 80, .inl ns)), (m3, .inl (cI, 80, .inl ds)), (m4, .inl (cI, 80, .inl ss)), (mK, .inl (cI, 8, .inl se)), (mX, .inl (cI, 8, .inl xx)), (mY, .inl (cI, 8, .inl yy))]) hw [] rfl rfl (x_runS (n := 2) (rest := [.int (dd (9 * k0 + j))]) (As := [.int 5, .int (nI j)]) S hw (m_mix l D cI cZ cV 5 (nI j) _) xh_3_9 xh_3_7 xh_3_8 xh_1_6 (by decide +kernel) ⟨by decide, by decide⟩ [] rfl rfl rfl hl.1 rfl (Nat.le_of_ble_eq_true rfl) dMO_give_63 ⟨by decide, by decide⟩) rfl rfl (fun H locs hw => ?_)
  refine lv_iload_n hx hb dMO_give_66 rfl (lv_at hl 3 rfl) ?_
  refine x_calliD (ws' := [(g, .inr (6, [.ref mP, .int cash, .int (nI n1), .ref mS, .ref mK, .ref mL, .ref mT, .ref mZ, .ref mD, .ref mH, .ref mG, .ref mC, .int cuts, .int (nI l0), .ref m1, .ref m2, .ref m3, .ref m4, .ref mB, .int siz, .int ctr, .ref mX, .ref mY])), (mS, .inl (cI, 8, .inl st)), (mL, .inl (cZ, 8, .inl su)), (mZ, .inl (cI, 8, .inl zz)), (mD, .inl (cI, 72, .inl dd)), (mT, .inl (cI, 8, .inl tt)), (mG, .inl (cZ, 72, .inl gg)), (mH, .inl (cI, 72, .inl hh)), (m1, .inl (cI, 80, .inl ks)), (m2, .inl (cI, 80, .inl ns)), (m3, .inl (cI, 80, .inl ds)), (m4, .inl (cI, 80, .inl ss)), (mK, .inl (cI, 8, .inl se)), (mX, .inl (cI, 8, .inl xx)), (mY, .inl (cI, 8, .inl yy))]) hw [] rfl rfl (x_runS (n := 2) (rest := [.int (dd (9 * k0 + j))]) (As := [.int (fMix 5 (nI j)), .int x]) S hw (m_mix l D cI cZ cV (fMix 5 (nI j)) x _) xh_3_9 xh_3_7 xh_3_8 xh_1_6 (by decide +kernel) ⟨by decide, by decide⟩ [] rfl rfl rfl hl.1 rfl (Nat.le_of_ble_eq_true rfl) dMO_give_67 ⟨by decide, by decide⟩) rfl rfl (fun H locs hw => ?_)
  refine lv_icmp_eq (tgt := 76) hx hb dMO_give_70 (by decide) (fun h70 => ?_) (fun h70 => absurd hd h70)
  refine lv_aload_n hx hb dMO_give_76 rfl (lv_at hl 0 rfl) ?_
  refine x_get S hw (C := RMO) (T := TMO) (N := 23) inMO 0 rfl rfl 6 (by decide) xh_2_151 (v := .ref mT) rfl dMO_give_77 ?_
  refine lv_iload_n hx hb dMO_give_80 rfl (lv_at hl 1 rfl) ?_
  refine x_iald S hw 5 0 rfl rfl (j := k0) (vp_in_nI (by omega) (by omega)) (nI_clamp (by omega)) dMO_give_81 ?_
  refine lv_aload_n hx hb dMO_give_82 rfl (lv_at hl 0 rfl) ?_
  refine lv_iload_n hx hb dMO_give_83 rfl (lv_at hl 1 rfl) ?_
  refine x_calliD (ws' := [(g, .inr (6, [.ref mP, .int cash, .int (nI n1), .ref mS, .ref mK, .ref mL, .ref mT, .ref mZ, .ref mD, .ref mH, .ref mG, .ref mC, .int cuts, .int (nI l0), .ref m1, .ref m2, .ref m3, .ref m4, .ref mB, .int siz, .int ctr, .ref mX, .ref mY])), (mS, .inl (cI, 8, .inl st)), (mL, .inl (cZ, 8, .inl su)), (mZ, .inl (cI, 8, .inl zz)), (mD, .inl (cI, 72, .inl dd)), (mT, .inl (cI, 8, .inl tt)), (mG, .inl (cZ, 72, .inl gg)), (mH, .inl (cI, 72, .inl hh)), (m1, .inl (cI, 80, .inl ks)), (m2, .inl (cI, 80, .inl ns)), (m3, .inl (cI, 80, .inl ds)), (m4, .inl (cI, 80, .inl ss)), (mK, .inl (cI, 8, .inl se)), (mX, .inl (cI, 8, .inl xx)), (mY, .inl (cI, 8, .inl yy))]) hw [0, 6] rfl rfl (x_runV (n := 1) (rest := [.int (tt k0)]) (As := [.int (nI k0)]) S hw (m_givenTo l D cI cZ cV g mP mS mK mL mT mZ mD mH mG mC m1 m2 m3 m4 mB mX mY cash (nI n1) cuts (nI l0) siz ctr gg k0 (by omega) _) xh_3_46 xh_3_43 xh_3_45 xsel_MO_givenTo xh_1_6 (by decide +kernel) ⟨by decide, by decide⟩ [0, 6] rfl rfl (ci := 6) (q0 := 0) rfl rfl rfl hl.1 rfl (Nat.le_of_ble_eq_true rfl) dMO_give_84 ⟨by decide, by decide⟩) rfl rfl (fun H locs hw => ?_)
  refine lv_isub hx hb dMO_give_87 ?_
  refine x_topi (y := nI (0 + 1)) (by rw [ht, hg0, pk_sub (by omega), show g0 + 0 + 1 - g0 = 0 + 1 by omega]) ?_
  refine lv_istore (lv' := [(4, .int (nI (0 + 1))), (0, .ref g), (1, .int (nI k0)), (2, .int (nI j)), (3, .int x)]) hx hb dMO_give_88 hl (by decide) rfl (fun ls hl => ?_)
  refine lv_aload_n hx hb dMO_give_90 rfl (lv_at hl 1 rfl) ?_
  refine x_get S hw (C := RMO) (T := TMO) (N := 23) inMO 0 rfl rfl 10 (by decide) xh_2_155 (v := .ref mG) rfl dMO_give_91 ?_
  refine lv_bipush (v := 9) hx hb dMO_give_94 (by decide) ?_
  refine lv_iload_n hx hb dMO_give_96 rfl (lv_at hl 2 rfl) ?_
  refine lv_imul hx hb dMO_give_97 ?_
  refine lv_iload_n hx hb dMO_give_98 rfl (lv_at hl 3 rfl) ?_
  refine lv_iadd hx hb dMO_give_99 ?_
  refine x_topi (y := nI (9 * k0 + j)) (ix9 _ _) ?_
  refine x_zald S hw 6 1 rfl rfl (j := (9 * k0 + j)) (vp_in_nI (by omega) (by omega)) (nI_clamp (by omega)) dMO_give_100 ?_
  refine lv_if_eq (tgt := 107) hx hb dMO_give_101 (by decide) (fun h101 => ?_) (fun h101 => absurd hg h101)
  refine lv_aload_n hx hb dMO_give_107 rfl (lv_at hl 1 rfl) ?_
  refine x_get S hw (C := RMO) (T := TMO) (N := 23) inMO 0 rfl rfl 13 (by decide) xh_2_158 (v := .int (nI l0)) rfl dMO_give_108 ?_
  refine lv_iload hx hb dMO_give_111 (lv_at hl 0 rfl) ?_
  refine lv_iconst (v := 1) hx hb dMO_give_113 (by decide) ?_
  refine lv_icmp_ne (tgt := 121) hx hb dMO_give_114 (by decide) (fun h114 => absurd rfl h114) (fun h114 => ?_)
  refine lv_iconst (v := 2) hx hb dMO_give_117 (by decide) ?_
  refine lv_goto (tgt := 122) hx hb dMO_give_118 (by decide) ?_
  refine lv_iadd hx hb dMO_give_122 ?_
  refine x_topi (y := nI (l0 + 2)) (nI_add l0 2) ?_
  refine lv_bipush (v := 80) hx hb dMO_give_123 (by decide) ?_
  refine lv_icmp_le (tgt := 131) hx hb dMO_give_125 (by decide) (fun h125 => ?_) (fun h125 => absurd (nI_le (b := 80) (by omega) (by decide)) h125)
  refine lv_aload_n hx hb dMO_give_131 rfl (lv_at hl 1 rfl) ?_
  refine x_get S hw (C := RMO) (T := TMO) (N := 23) inMO 0 rfl rfl 10 (by decide) xh_2_155 (v := .ref mG) rfl dMO_give_132 ?_
  refine lv_bipush (v := 9) hx hb dMO_give_135 (by decide) ?_
  refine lv_iload_n hx hb dMO_give_137 rfl (lv_at hl 2 rfl) ?_
  refine lv_imul hx hb dMO_give_138 ?_
  refine lv_iload_n hx hb dMO_give_139 rfl (lv_at hl 3 rfl) ?_
  refine lv_iadd hx hb dMO_give_140 ?_
  refine x_topi (y := nI (9 * k0 + j)) (ix9 _ _) ?_
  refine lv_iconst (v := 1) hx hb dMO_give_141 (by decide) ?_
  refine x_zast S hw 6 1 rfl rfl (j := (9 * k0 + j)) (vp_in_nI (by omega) (by omega)) (nI_clamp (by omega)) rfl (ws' := [(g, .inr (6, [.ref mP, .int cash, .int (nI n1), .ref mS, .ref mK, .ref mL, .ref mT, .ref mZ, .ref mD, .ref mH, .ref mG, .ref mC, .int cuts, .int (nI l0), .ref m1, .ref m2, .ref m3, .ref m4, .ref mB, .int siz, .int ctr, .ref mX, .ref mY])), (mS, .inl (cI, 8, .inl st)), (mL, .inl (cZ, 8, .inl su)), (mZ, .inl (cI, 8, .inl zz)), (mD, .inl (cI, 72, .inl dd)), (mT, .inl (cI, 8, .inl tt)), (mG, .inl (cZ, 72, .inl (upd gg (9 * k0 + j) 1))), (mH, .inl (cI, 72, .inl hh)), (m1, .inl (cI, 80, .inl ks)), (m2, .inl (cI, 80, .inl ns)), (m3, .inl (cI, 80, .inl ds)), (m4, .inl (cI, 80, .inl ss)), (mK, .inl (cI, 8, .inl se)), (mX, .inl (cI, 8, .inl xx)), (mY, .inl (cI, 8, .inl yy))]) rfl dMO_give_142 (fun H locs hw => ?_)
  refine lv_aload_n hx hb dMO_give_143 rfl (lv_at hl 1 rfl) ?_
  refine x_get S hw (C := RMO) (T := TMO) (N := 23) inMO 0 rfl rfl 9 (by decide) xh_2_154 (v := .ref mH) rfl dMO_give_144 ?_
  refine lv_bipush (v := 9) hx hb dMO_give_147 (by decide) ?_
  refine lv_iload_n hx hb dMO_give_149 rfl (lv_at hl 2 rfl) ?_
  refine lv_imul hx hb dMO_give_150 ?_
  refine lv_iload_n hx hb dMO_give_151 rfl (lv_at hl 3 rfl) ?_
  refine lv_iadd hx hb dMO_give_152 ?_
  refine x_topi (y := nI (9 * k0 + j)) (ix9 _ _) ?_
  refine lv_iload_n hx hb dMO_give_153 rfl (lv_at hl 4 rfl) ?_
  refine x_iast S hw 7 0 rfl rfl (j := (9 * k0 + j)) (vp_in_nI (by omega) (by omega)) (nI_clamp (by omega)) (ws' := [(g, .inr (6, [.ref mP, .int cash, .int (nI n1), .ref mS, .ref mK, .ref mL, .ref mT, .ref mZ, .ref mD, .ref mH, .ref mG, .ref mC, .int cuts, .int (nI l0), .ref m1, .ref m2, .ref m3, .ref m4, .ref mB, .int siz, .int ctr, .ref mX, .ref mY])), (mS, .inl (cI, 8, .inl st)), (mL, .inl (cZ, 8, .inl su)), (mZ, .inl (cI, 8, .inl zz)), (mD, .inl (cI, 72, .inl dd)), (mT, .inl (cI, 8, .inl tt)), (mG, .inl (cZ, 72, .inl (upd gg (9 * k0 + j) 1))), (mH, .inl (cI, 72, .inl (upd hh (9 * k0 + j) x))), (m1, .inl (cI, 80, .inl ks)), (m2, .inl (cI, 80, .inl ns)), (m3, .inl (cI, 80, .inl ds)), (m4, .inl (cI, 80, .inl ss)), (mK, .inl (cI, 8, .inl se)), (mX, .inl (cI, 8, .inl xx)), (mY, .inl (cI, 8, .inl yy))]) rfl dMO_give_154 (fun H locs hw => ?_)
  refine lv_aload_n hx hb dMO_give_155 rfl (lv_at hl 1 rfl) ?_
  refine lv_iconst (v := 5) hx hb dMO_give_156 (by decide) ?_
  refine lv_iload_n hx hb dMO_give_157 rfl (lv_at hl 2 rfl) ?_
  refine lv_iload_n hx hb dMO_give_158 rfl (lv_at hl 3 rfl) ?_
  refine x_callvD (ws' := [(g, .inr (6, [.ref mP, .int cash, .int (nI n1), .ref mS, .ref mK, .ref mL, .ref mT, .ref mZ, .ref mD, .ref mH, .ref mG, .ref mC, .int cuts, .int (nI (l0 + 1)), .ref m1, .ref m2, .ref m3, .ref m4, .ref mB, .int siz, .int ctr, .ref mX, .ref mY])), (mS, .inl (cI, 8, .inl st)), (mL, .inl (cZ, 8, .inl su)), (mZ, .inl (cI, 8, .inl zz)), (mD, .inl (cI, 72, .inl dd)), (mT, .inl (cI, 8, .inl tt)), (mG, .inl (cZ, 72, .inl (upd gg (9 * k0 + j) 1))), (mH, .inl (cI, 72, .inl (upd hh (9 * k0 + j) x))), (m1, .inl (cI, 80, .inl (upd ks l0 5))), (m2, .inl (cI, 80, .inl (upd ns l0 (nI k0)))), (m3, .inl (cI, 80, .inl (upd ds l0 (nI j)))), (m4, .inl (cI, 80, .inl (upd ss l0 (fMix (fMix (fMix (jBef ss l0) 5) (nI k0)) (nI j))))), (mK, .inl (cI, 8, .inl se)), (mX, .inl (cI, 8, .inl xx)), (mY, .inl (cI, 8, .inl yy))]) hw [0, 8, 9, 10, 11] rfl rfl (x_runV (n := 3) (rest := []) (As := [.int 5, .int (nI k0), .int (nI j)]) S hw (m_write l D cI cZ cV g mP mS mK mL mT mZ mD mH mG mC m1 m2 m3 m4 mB mX mY cash (nI n1) cuts siz ctr ks ns ds ss l0 5 (nI k0) (nI j) (by omega) _) xh_3_6 xh_3_3 xh_3_5 xsel_MO_write xh_1_6 (by decide +kernel) ⟨by decide, by decide⟩ [0, 8, 9, 10, 11] rfl rfl (ci := 6) (q0 := 0) rfl rfl rfl hl.1 rfl (Nat.le_of_ble_eq_true rfl) dMO_give_159 ⟨by decide, by decide⟩) rfl rfl (fun H locs hw => ?_)
  refine lv_iload hx hb dMO_give_162 (lv_at hl 0 rfl) ?_
  refine lv_iconst (v := 1) hx hb dMO_give_164 (by decide) ?_
  refine lv_icmp_ne (tgt := 204) hx hb dMO_give_165 (by decide) (fun h165 => absurd rfl h165) (fun h165 => ?_)
  refine lv_aload_n hx hb dMO_give_168 rfl (lv_at hl 1 rfl) ?_
  refine x_get S hw (C := RMO) (T := TMO) (N := 23) inMO 0 rfl rfl 4 (by decide) xh_2_149 (v := .ref mK) rfl dMO_give_169 ?_
  refine lv_iload_n hx hb dMO_give_172 rfl (lv_at hl 2 rfl) ?_
  refine lv_aload_n hx hb dMO_give_173 rfl (lv_at hl 1 rfl) ?_
  refine lv_iload_n hx hb dMO_give_174 rfl (lv_at hl 2 rfl) ?_
  refine x_calliD (ws' := [(g, .inr (6, [.ref mP, .int cash, .int (nI n1), .ref mS, .ref mK, .ref mL, .ref mT, .ref mZ, .ref mD, .ref mH, .ref mG, .ref mC, .int cuts, .int (nI (l0 + 1)), .ref m1, .ref m2, .ref m3, .ref m4, .ref mB, .int siz, .int ctr, .ref mX, .ref mY])), (mS, .inl (cI, 8, .inl st)), (mL, .inl (cZ, 8, .inl su)), (mZ, .inl (cI, 8, .inl zz)), (mD, .inl (cI, 72, .inl dd)), (mT, .inl (cI, 8, .inl tt)), (mG, .inl (cZ, 72, .inl (upd gg (9 * k0 + j) 1))), (mH, .inl (cI, 72, .inl (upd hh (9 * k0 + j) x))), (m1, .inl (cI, 80, .inl (upd ks l0 5))), (m2, .inl (cI, 80, .inl (upd ns l0 (nI k0)))), (m3, .inl (cI, 80, .inl (upd ds l0 (nI j)))), (m4, .inl (cI, 80, .inl (upd ss l0 (fMix (fMix (fMix (jBef ss l0) 5) (nI k0)) (nI j))))), (mK, .inl (cI, 8, .inl se)), (mX, .inl (cI, 8, .inl ((tgF (upd gg (9 * k0 + j) 1) (upd hh (9 * k0 + j) x) k0 g0 xx yy 4).1))), (mY, .inl (cI, 8, .inl ((tgF (upd gg (9 * k0 + j) 1) (upd hh (9 * k0 + j) x) k0 g0 xx yy 4).2.1)))]) hw [0, 6, 7, 13, 14] rfl rfl (x_runV (n := 1) (rest := [.int (nI k0), .ref mK]) (As := [.int (nI k0)]) S hw (m_tg l D cI cZ cV g mP mS mK mL mT mZ mD mH mG mC m1 m2 m3 m4 mB mX mY cash (nI n1) cuts (nI (l0 + 1)) siz ctr (upd gg (9 * k0 + j) 1) (upd hh (9 * k0 + j) x) xx yy k0 g0 (by omega) hm9 hc9 hA hB _) xh_3_50 xh_3_47 xh_3_49 xsel_MO_together xh_1_6 (by decide +kernel) ⟨by decide, by decide⟩ [0, 6, 7, 13, 14] rfl rfl (ci := 6) (q0 := 0) rfl rfl rfl hl.1 rfl (Nat.le_of_ble_eq_true rfl) dMO_give_175 ⟨by decide, by decide⟩) rfl rfl (fun H locs hw => ?_)
  refine x_iast S hw 12 0 rfl rfl (j := k0) (vp_in_nI (by omega) (by omega)) (nI_clamp (by omega)) (ws' := [(g, .inr (6, [.ref mP, .int cash, .int (nI n1), .ref mS, .ref mK, .ref mL, .ref mT, .ref mZ, .ref mD, .ref mH, .ref mG, .ref mC, .int cuts, .int (nI (l0 + 1)), .ref m1, .ref m2, .ref m3, .ref m4, .ref mB, .int siz, .int ctr, .ref mX, .ref mY])), (mS, .inl (cI, 8, .inl st)), (mL, .inl (cZ, 8, .inl su)), (mZ, .inl (cI, 8, .inl zz)), (mD, .inl (cI, 72, .inl dd)), (mT, .inl (cI, 8, .inl tt)), (mG, .inl (cZ, 72, .inl (upd gg (9 * k0 + j) 1))), (mH, .inl (cI, 72, .inl (upd hh (9 * k0 + j) x))), (m1, .inl (cI, 80, .inl (upd ks l0 5))), (m2, .inl (cI, 80, .inl (upd ns l0 (nI k0)))), (m3, .inl (cI, 80, .inl (upd ds l0 (nI j)))), (m4, .inl (cI, 80, .inl (upd ss l0 (fMix (fMix (fMix (jBef ss l0) 5) (nI k0)) (nI j))))), (mK, .inl (cI, 8, .inl (upd se k0 ((tgF (upd gg (9 * k0 + j) 1) (upd hh (9 * k0 + j) x) k0 g0 xx yy 4).2.2)))), (mX, .inl (cI, 8, .inl ((tgF (upd gg (9 * k0 + j) 1) (upd hh (9 * k0 + j) x) k0 g0 xx yy 4).1))), (mY, .inl (cI, 8, .inl ((tgF (upd gg (9 * k0 + j) 1) (upd hh (9 * k0 + j) x) k0 g0 xx yy 4).2.1)))]) rfl dMO_give_178 (fun H locs hw => ?_)
  refine lv_aload_n hx hb dMO_give_179 rfl (lv_at hl 1 rfl) ?_
  refine x_get S hw (C := RMO) (T := TMO) (N := 23) inMO 0 rfl rfl 5 (by decide) xh_2_150 (v := .ref mL) rfl dMO_give_180 ?_
  refine lv_iload_n hx hb dMO_give_183 rfl (lv_at hl 2 rfl) ?_
  refine lv_iconst (v := 0) hx hb dMO_give_184 (by decide) ?_
  refine x_zast S hw 2 1 rfl rfl (j := k0) (vp_in_nI (by omega) (by omega)) (nI_clamp (by omega)) rfl (ws' := [(g, .inr (6, [.ref mP, .int cash, .int (nI n1), .ref mS, .ref mK, .ref mL, .ref mT, .ref mZ, .ref mD, .ref mH, .ref mG, .ref mC, .int cuts, .int (nI (l0 + 1)), .ref m1, .ref m2, .ref m3, .ref m4, .ref mB, .int siz, .int ctr, .ref mX, .ref mY])), (mS, .inl (cI, 8, .inl st)), (mL, .inl (cZ, 8, .inl (upd su k0 0))), (mZ, .inl (cI, 8, .inl zz)), (mD, .inl (cI, 72, .inl dd)), (mT, .inl (cI, 8, .inl tt)), (mG, .inl (cZ, 72, .inl (upd gg (9 * k0 + j) 1))), (mH, .inl (cI, 72, .inl (upd hh (9 * k0 + j) x))), (m1, .inl (cI, 80, .inl (upd ks l0 5))), (m2, .inl (cI, 80, .inl (upd ns l0 (nI k0)))), (m3, .inl (cI, 80, .inl (upd ds l0 (nI j)))), (m4, .inl (cI, 80, .inl (upd ss l0 (fMix (fMix (fMix (jBef ss l0) 5) (nI k0)) (nI j))))), (mK, .inl (cI, 8, .inl (upd se k0 ((tgF (upd gg (9 * k0 + j) 1) (upd hh (9 * k0 + j) x) k0 g0 xx yy 4).2.2)))), (mX, .inl (cI, 8, .inl ((tgF (upd gg (9 * k0 + j) 1) (upd hh (9 * k0 + j) x) k0 g0 xx yy 4).1))), (mY, .inl (cI, 8, .inl ((tgF (upd gg (9 * k0 + j) 1) (upd hh (9 * k0 + j) x) k0 g0 xx yy 4).2.1)))]) rfl dMO_give_185 (fun H locs hw => ?_)
  refine lv_aload_n hx hb dMO_give_186 rfl (lv_at hl 1 rfl) ?_
  refine lv_iload_n hx hb dMO_give_187 rfl (lv_at hl 2 rfl) ?_
  refine x_callvD (ws' := [(g, .inr (6, [.ref mP, .int cash, .int (nI n1), .ref mS, .ref mK, .ref mL, .ref mT, .ref mZ, .ref mD, .ref mH, .ref mG, .ref mC, .int cuts, .int (nI (l0 + 1)), .ref m1, .ref m2, .ref m3, .ref m4, .ref mB, .int siz, .int ctr, .ref mX, .ref mY])), (mS, .inl (cI, 8, .inl st)), (mL, .inl (cZ, 8, .inl (upd su k0 0))), (mZ, .inl (cI, 8, .inl zz)), (mD, .inl (cI, 72, .inl dd)), (mT, .inl (cI, 8, .inl tt)), (mG, .inl (cZ, 72, .inl (dgF (upd gg (9 * k0 + j) 1) k0 9))), (mH, .inl (cI, 72, .inl (upd hh (9 * k0 + j) x))), (m1, .inl (cI, 80, .inl (upd ks l0 5))), (m2, .inl (cI, 80, .inl (upd ns l0 (nI k0)))), (m3, .inl (cI, 80, .inl (upd ds l0 (nI j)))), (m4, .inl (cI, 80, .inl (upd ss l0 (fMix (fMix (fMix (jBef ss l0) 5) (nI k0)) (nI j))))), (mK, .inl (cI, 8, .inl (upd se k0 ((tgF (upd gg (9 * k0 + j) 1) (upd hh (9 * k0 + j) x) k0 g0 xx yy 4).2.2)))), (mX, .inl (cI, 8, .inl ((tgF (upd gg (9 * k0 + j) 1) (upd hh (9 * k0 + j) x) k0 g0 xx yy 4).1))), (mY, .inl (cI, 8, .inl ((tgF (upd gg (9 * k0 + j) 1) (upd hh (9 * k0 + j) x) k0 g0 xx yy 4).2.1)))]) hw [0, 6] rfl rfl (x_runV (n := 1) (rest := []) (As := [.int (nI k0)]) S hw (m_drop l D cI cZ cV g mP mS mK mL mT mZ mD mH mG mC m1 m2 m3 m4 mB mX mY cash (nI n1) cuts (nI (l0 + 1)) siz ctr (upd gg (9 * k0 + j) 1) k0 (by omega) _) xh_3_23 xh_3_20 xh_3_22 xsel_MO_dropGiven xh_1_6 (by decide +kernel) ⟨by decide, by decide⟩ [0, 6] rfl rfl (ci := 6) (q0 := 0) rfl rfl rfl hl.1 rfl (Nat.le_of_ble_eq_true rfl) dMO_give_188 ⟨by decide, by decide⟩) rfl rfl (fun H locs hw => ?_)
  refine lv_aload_n hx hb dMO_give_191 rfl (lv_at hl 1 rfl) ?_
  refine lv_bipush (v := 6) hx hb dMO_give_192 (by decide) ?_
  refine lv_iload_n hx hb dMO_give_194 rfl (lv_at hl 2 rfl) ?_
  refine lv_aload_n hx hb dMO_give_195 rfl (lv_at hl 1 rfl) ?_
  refine x_get S hw (C := RMO) (T := TMO) (N := 23) inMO 0 rfl rfl 6 (by decide) xh_2_151 (v := .ref mT) rfl dMO_give_196 ?_
  refine lv_iload_n hx hb dMO_give_199 rfl (lv_at hl 2 rfl) ?_
  refine x_iald S hw 5 0 rfl rfl (j := k0) (vp_in_nI (by omega) (by omega)) (nI_clamp (by omega)) dMO_give_200 ?_
  refine x_callvD (ws' := [(g, .inr (6, [.ref mP, .int cash, .int (nI n1), .ref mS, .ref mK, .ref mL, .ref mT, .ref mZ, .ref mD, .ref mH, .ref mG, .ref mC, .int cuts, .int (nI ((l0 + 1) + 1)), .ref m1, .ref m2, .ref m3, .ref m4, .ref mB, .int siz, .int ctr, .ref mX, .ref mY])), (mS, .inl (cI, 8, .inl st)), (mL, .inl (cZ, 8, .inl (upd su k0 0))), (mZ, .inl (cI, 8, .inl zz)), (mD, .inl (cI, 72, .inl dd)), (mT, .inl (cI, 8, .inl tt)), (mG, .inl (cZ, 72, .inl (dgF (upd gg (9 * k0 + j) 1) k0 9))), (mH, .inl (cI, 72, .inl (upd hh (9 * k0 + j) x))), (m1, .inl (cI, 80, .inl (upd (upd ks l0 5) (l0 + 1) 6))), (m2, .inl (cI, 80, .inl (upd (upd ns l0 (nI k0)) (l0 + 1) (nI k0)))), (m3, .inl (cI, 80, .inl (upd (upd ds l0 (nI j)) (l0 + 1) (tt k0)))), (m4, .inl (cI, 80, .inl (upd (upd ss l0 (fMix (fMix (fMix (jBef ss l0) 5) (nI k0)) (nI j))) (l0 + 1) (fMix (fMix (fMix (jBef (upd ss l0 (fMix (fMix (fMix (jBef ss l0) 5) (nI k0)) (nI j))) (l0 + 1)) 6) (nI k0)) (tt k0))))), (mK, .inl (cI, 8, .inl (upd se k0 ((tgF (upd gg (9 * k0 + j) 1) (upd hh (9 * k0 + j) x) k0 g0 xx yy 4).2.2)))), (mX, .inl (cI, 8, .inl ((tgF (upd gg (9 * k0 + j) 1) (upd hh (9 * k0 + j) x) k0 g0 xx yy 4).1))), (mY, .inl (cI, 8, .inl ((tgF (upd gg (9 * k0 + j) 1) (upd hh (9 * k0 + j) x) k0 g0 xx yy 4).2.1)))]) hw [0, 8, 9, 10, 11] rfl rfl (x_runV (n := 3) (rest := []) (As := [.int 6, .int (nI k0), .int (tt k0)]) S hw (m_write l D cI cZ cV g mP mS mK mL mT mZ mD mH mG mC m1 m2 m3 m4 mB mX mY cash (nI n1) cuts siz ctr (upd ks l0 5) (upd ns l0 (nI k0)) (upd ds l0 (nI j)) (upd ss l0 (fMix (fMix (fMix (jBef ss l0) 5) (nI k0)) (nI j))) (l0 + 1) 6 (nI k0) (tt k0) (by omega) _) xh_3_6 xh_3_3 xh_3_5 xsel_MO_write xh_1_6 (by decide +kernel) ⟨by decide, by decide⟩ [0, 8, 9, 10, 11] rfl rfl (ci := 6) (q0 := 0) rfl rfl rfl hl.1 rfl (Nat.le_of_ble_eq_true rfl) dMO_give_201 ⟨by decide, by decide⟩) rfl rfl (fun H locs hw => ?_)
  refine lv_iload hx hb dMO_give_204 (lv_at hl 0 rfl) ?_
  refine lv_iconst (v := 1) hx hb dMO_give_206 (by decide) ?_
  refine lv_isub hx hb dMO_give_207 ?_
  refine x_topi (y := 0) (nI_pred 0) ?_
  exact x_iret S hr hlk hw (by decide) (by decide) (⟨rfl, rfl⟩) dMO_give_208
