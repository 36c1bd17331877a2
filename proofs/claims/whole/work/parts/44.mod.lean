set_option maxHeartbeats 4000000 in
set_option maxRecDepth 100000 in
theorem m_wra_none (l : Launch) (D : va_G) (cI cZ cV : ClassId) (g : Nat) (mP : Nat) (mS : Nat) (mK : Nat) (mL : Nat) (mT : Nat) (mZ : Nat) (mD : Nat) (mH : Nat) (mG : Nat) (mC : Nat) (m1 : Nat) (m2 : Nat) (m3 : Nat) (m4 : Nat) (mB : Nat) (mX : Nat) (mY : Nat) (cash : Int32) (cuts : Int32) (lin : Int32) (siz : Int32) (ctr : Int32) (st : Nat → Int32) (n1 : Nat) (p0 : Int32) (hn : n1 ≤ 8) (hall : ∀ v, v < n1 → ¬ st v = 1) : XI l yMO_wrap cMO_wrap 6 (some .int) D (xT3 cI cZ cV) 1 0 0 [.ref g, .int p0] [(g, .inr (6, [.ref mP, .int cash, .int (nI n1), .ref mS, .ref mK, .ref mL, .ref mT, .ref mZ, .ref mD, .ref mH, .ref mG, .ref mC, .int cuts, .int lin, .ref m1, .ref m2, .ref m3, .ref m4, .ref mB, .int siz, .int ctr, .ref mX, .ref mY])), (mS, .inl (cI, 8, .inl st))] (fun r u => r = -4 ∧ u = [(g, .inr (6, [.ref mP, .int cash, .int (nI n1), .ref mS, .ref mK, .ref mL, .ref mT, .ref mZ, .ref mD, .ref mH, .ref mG, .ref mC, .int cuts, .int lin, .ref m1, .ref m2, .ref m3, .ref m4, .ref mB, .int siz, .int ctr, .ref mX, .ref mY])), (mS, .inl (cI, 8, .inl st))]) := by
  intro sz
  refine x_ofW (Qc := fun A => va_Qi _ (xB D A) A) sz (by decide) (Nat.le_of_ble_eq_true rfl) ?_
  intro p e s m args below meth c A ls S hr hlk hnm hw hl
  obtain ⟨hx, hb, hml, hown, hts⟩ := id S
  have hl : lv_has ls 6 [(0, .ref g), (1, .int p0)] := hl
  refine lv_aload_n hx hb dMO_wrap_0 rfl (lv_at hl 0 rfl) ?_
  refine x_calliD (ws' := [(g, .inr (6, [.ref mP, .int cash, .int (nI n1), .ref mS, .ref mK, .ref mL, .ref mT, .ref mZ, .ref mD, .ref mH, .ref mG, .ref mC, .int cuts, .int lin, .ref m1, .ref m2, .ref m3, .ref m4, .ref mB, .int siz, .int ctr, .ref mX, .ref mY])), (mS, .inl (cI, 8, .inl st))]) hw [0, 1] rfl rfl (x_runV (n := 0) (rest := []) (As := []) S hw (m_act_none l D cI cZ cV g mP mS mK mL mT mZ mD mH mG mC m1 m2 m3 m4 mB mX mY cash cuts lin siz ctr st n1 hn hall _) xh_2_238 xh_2_235 xh_2_237 xsel_MO_active xh_1_6 (by decide +kernel) ⟨by decide, by decide⟩ [0, 1] rfl rfl (ci := 6) (q0 := 0) rfl rfl rfl hl.1 rfl (Nat.le_of_ble_eq_true rfl) dMO_wrap_1 ⟨by decide, by decide⟩) rfl rfl (fun H locs hw => ?_)
  refine lv_istore_n (lv' := [(2, .int (-1)), (0, .ref g), (1, .int p0)]) hx hb dMO_wrap_4 rfl hl (by decide) rfl (fun ls hl => ?_)
  refine lv_iload_n hx hb dMO_wrap_5 rfl (lv_at hl 0 rfl) ?_
  refine lv_if_ge (tgt := 12) hx hb dMO_wrap_6 (by decide) (fun h6 => absurd h6 (by decide)) (fun h6 => ?_)
  refine lv_bipush (v := (-4)) hx hb dMO_wrap_9 (by decide) ?_
  exact x_iret S hr hlk hw (by decide) (by decide) (⟨rfl, rfl⟩) dMO_wrap_11

set_option maxHeartbeats 4000000 in
set_option maxRecDepth 100000 in
theorem m_wra_lock (l : Launch) (D : va_G) (cI cZ cV : ClassId) (g : Nat) (mP : Nat) (mS : Nat) (mK : Nat) (mL : Nat) (mT : Nat) (mZ : Nat) (mD : Nat) (mH : Nat) (mG : Nat) (mC : Nat) (m1 : Nat) (m2 : Nat) (m3 : Nat) (m4 : Nat) (mB : Nat) (mX : Nat) (mY : Nat) (cash : Int32) (cuts : Int32) (lin : Int32) (siz : Int32) (ctr : Int32) (st : Nat → Int32) (su : Nat → Int32) (n1 : Nat) (a0 : Nat) (p0 : Int32) (hn : a0 < n1 ∧ n1 ≤ 8) (hs : st a0 = 1) (hall : ∀ v, v < a0 → ¬ st v = 1) (hl9 : ¬ su a0 = 0) : XI l yMO_wrap cMO_wrap 6 (some .int) D (xT3 cI cZ cV) 1 0 0 [.ref g, .int p0] [(g, .inr (6, [.ref mP, .int cash, .int (nI n1), .ref mS, .ref mK, .ref mL, .ref mT, .ref mZ, .ref mD, .ref mH, .ref mG, .ref mC, .int cuts, .int lin, .ref m1, .ref m2, .ref m3, .ref m4, .ref mB, .int siz, .int ctr, .ref mX, .ref mY])), (mS, .inl (cI, 8, .inl st)), (mL, .inl (cZ, 8, .inl su))] (fun r u => r = -7 ∧ u = [(g, .inr (6, [.ref mP, .int cash, .int (nI n1), .ref mS, .ref mK, .ref mL, .ref mT, .ref mZ, .ref mD, .ref mH, .ref mG, .ref mC, .int cuts, .int lin, .ref m1, .ref m2, .ref m3, .ref m4, .ref mB, .int siz, .int ctr, .ref mX, .ref mY])), (mS, .inl (cI, 8, .inl st)), (mL, .inl (cZ, 8, .inl su))]) := by
  intro sz
  refine x_ofW (Qc := fun A => va_Qi _ (xB D A) A) sz (by decide) (Nat.le_of_ble_eq_true rfl) ?_
  intro p e s m args below meth c A ls S hr hlk hnm hw hl
  obtain ⟨hx, hb, hml, hown, hts⟩ := id S
  have hl : lv_has ls 6 [(0, .ref g), (1, .int p0)] := hl
  refine lv_aload_n hx hb dMO_wrap_0 rfl (lv_at hl 0 rfl) ?_
  refine x_calliD (ws' := [(g, .inr (6, [.ref mP, .int cash, .int (nI n1), .ref mS, .ref mK, .ref mL, .ref mT, .ref mZ, .ref mD, .ref mH, .ref mG, .ref mC, .int cuts, .int lin, .ref m1, .ref m2, .ref m3, .ref m4, .ref mB, .int siz, .int ctr, .ref mX, .ref mY])), (mS, .inl (cI, 8, .inl st)), (mL, .inl (cZ, 8, .inl su))]) hw [0, 1] rfl rfl (x_runV (n := 0) (rest := []) (As := []) S hw (m_act_some l D cI cZ cV g mP mS mK mL mT mZ mD mH mG mC m1 m2 m3 m4 mB mX mY cash cuts lin siz ctr st n1 a0 hn hs hall _) xh_2_238 xh_2_235 xh_2_237 xsel_MO_active xh_1_6 (by decide +kernel) ⟨by decide, by decide⟩ [0, 1] rfl rfl (ci := 6) (q0 := 0) rfl rfl rfl hl.1 rfl (Nat.le_of_ble_eq_true rfl) dMO_wrap_1 ⟨by decide, by decide⟩) rfl rfl (fun H locs hw => ?_)
  refine lv_istore_n (lv' := [(2, .int (nI a0)), (0, .ref g), (1, .int p0)]) hx hb dMO_wrap_4 rfl hl (by decide) rfl (fun ls hl => ?_)
  refine lv_iload_n hx hb dMO_wrap_5 rfl (lv_at hl 0 rfl) ?_
  refine lv_if_ge (tgt := 12) hx hb dMO_wrap_6 (by decide) (fun h6 => ?_) (fun h6 => absurd (nI_pos' (by omega)) h6)
  refine lv_aload_n hx hb dMO_wrap_12 rfl (lv_at hl 1 rfl) ?_
  refine x_get S hw (C := RMO) (T := TMO) (N := 23) inMO 0 rfl rfl 5 (by decide) xh_2_150 (v := .ref mL) rfl dMO_wrap_13 ?_
  refine lv_iload_n hx hb dMO_wrap_16 rfl (lv_at hl 0 rfl) ?_
  refine x_zald S hw 2 1 rfl rfl (j := a0) (vp_in_nI (by omega) (by omega)) (nI_clamp (by omega)) dMO_wrap_17 ?_
  refine lv_if_eq (tgt := 24) hx hb dMO_wrap_18 (by decide) (fun h18 => absurd h18 hl9) (fun h18 => ?_)
  refine lv_bipush (v := (-7)) hx hb dMO_wrap_21 (by decide) ?_
  exact x_iret S hr hlk hw (by decide) (by decide) (⟨rfl, rfl⟩) dMO_wrap_23

set_option maxHeartbeats 4000000 in
set_option maxRecDepth 100000 in
theorem ml_wrap {p : Program} {l : Launch} {e : Env} {s : State} {m : MethodId} {args : Array Value} {below : List Frame} {meth : Method} {c : Code} {Q : State → Prop} {D : va_G} {A : Nat → Prop} {cI cZ cV : ClassId} {H0 : Heap} {R : Room} {cells slots : Nat} (hR : R = (xR 2 0 0)) (hC : cells = 0 ∧ slots = 0) (S : CallFix p m c cMO_wrap 6 s args xAll "EscrowedVersionsModel") (g : Nat) (mP : Nat) (mS : Nat) (mK : Nat) (mL : Nat) (mT : Nat) (mZ : Nat) (mD : Nat) (mH : Nat) (mG : Nat) (mC : Nat) (m1 : Nat) (m2 : Nat) (m3 : Nat) (m4 : Nat) (mB : Nat) (mX : Nat) (mY : Nat) (cash : Int32) (cnt : Int32) (cuts : Int32) (lin : Int32) (siz : Int32) (ctr : Int32) (st : Nat → Int32) (su : Nat → Int32) (se : Nat → Int32) (bb : Nat → Int32) (p0 : Int32) (b9 : Int32) (s9 : Int32) (a0 : Nat)
    (kk : ∀ (ls : Array Slot) (H : Heap) (locs : List Loc), xW D (xT3 cI cZ cV) A H0 H locs [(g, .inr (6, [.ref mP, .int cash, .int cnt, .ref mS, .ref mK, .ref mL, .ref mT, .ref mZ, .ref mD, .ref mH, .ref mG, .ref mC, .int cuts, .int lin, .ref m1, .ref m2, .ref m3, .ref m4, .ref mB, .int siz, .int ctr, .ref mX, .ref mY])), (mS, .inl (cI, 8, .inl st)), (mL, .inl (cZ, 8, .inl su)), (mK, .inl (cI, 8, .inl se)), (mB, .inl (cI, 16, .inl (wbF bb b9 4)))] s → lv_has ls 6 [(0, .ref g), (1, .int p0), (2, .int (nI a0)), (3, .int b9), (4, .int s9), (5, .int (nI 4))] → W p l e R s m args below meth c H locs cells slots Q (F0 m 124 ls [])) :
    ∀ (n k : Nat) (ls : Array Slot) (H : Heap) (locs : List Loc), k + n = 4 → xW D (xT3 cI cZ cV) A H0 H locs [(g, .inr (6, [.ref mP, .int cash, .int cnt, .ref mS, .ref mK, .ref mL, .ref mT, .ref mZ, .ref mD, .ref mH, .ref mG, .ref mC, .int cuts, .int lin, .ref m1, .ref m2, .ref m3, .ref m4, .ref mB, .int siz, .int ctr, .ref mX, .ref mY])), (mS, .inl (cI, 8, .inl st)), (mL, .inl (cZ, 8, .inl su)), (mK, .inl (cI, 8, .inl se)), (mB, .inl (cI, 16, .inl (wbF bb b9 k)))] s → lv_has ls 6 [(0, .ref g), (1, .int p0), (2, .int (nI a0)), (3, .int b9), (4, .int s9), (5, .int (nI k))] → W p l e R s m args below meth c H locs cells slots Q (F0 m 97 ls []) := by
  obtain ⟨hx, hb, hml, hown, hts⟩ := id S
  subst hR
  obtain ⟨rfl, rfl⟩ := hC
  intro n
  induction n with
  | zero =>
    intro k ls H locs hk hw hl
    obtain rfl : 4 = k := by omega
    refine lv_iload hx hb dMO_wrap_97 (lv_at hl 5 rfl) ?_
    refine lv_iconst (v := 4) hx hb dMO_wrap_99 (by decide) ?_
    refine lv_icmp_ge (tgt := 124) hx hb dMO_wrap_100 (by decide) (fun h100 => ?_) (fun h100 => absurd (by decide +kernel) h100)
    exact kk ls H locs hw (lv_sub hl [0, 1, 2, 3, 4, 5] rfl)
  | succ n ih =>
    intro k ls H locs hk hw hl
    have hkN : k < 4 := by omega
    refine lv_iload hx hb dMO_wrap_97 (lv_at hl 5 rfl) ?_
    refine lv_iconst (v := 4) hx hb dMO_wrap_99 (by decide) ?_
    refine lv_icmp_ge (tgt := 124) hx hb dMO_wrap_100 (by decide) (fun h100 => absurd h100 (nI_ge (b := 4) hkN (by decide))) (fun h100 => ?_)
    refine lv_aload_n hx hb dMO_wrap_103 rfl (lv_at hl 0 rfl) ?_
    refine x_get S hw (C := RMO) (T := TMO) (N := 23) inMO 0 rfl rfl 18 (by decide) xh_2_163 (v := .ref mB) rfl dMO_wrap_104 ?_
    refine lv_iconst (v := 3) hx hb dMO_wrap_107 (by decide) ?_
    refine lv_iload hx hb dMO_wrap_108 (lv_at hl 5 rfl) ?_
    refine lv_iadd hx hb dMO_wrap_110 ?_
    refine x_topi (y := nI (3 + k)) (nI_add 3 k) ?_
    refine lv_iload_n hx hb dMO_wrap_111 rfl (lv_at hl 3 rfl) ?_
    refine lv_iload hx hb dMO_wrap_112 (lv_at hl 5 rfl) ?_
    refine x_calliD (ws' := [(g, .inr (6, [.ref mP, .int cash, .int cnt, .ref mS, .ref mK, .ref mL, .ref mT, .ref mZ, .ref mD, .ref mH, .ref mG, .ref mC, .int cuts, .int lin, .ref m1, .ref m2, .ref m3, .ref m4, .ref mB, .int siz, .int ctr, .ref mX, .ref mY])), (mS, .inl (cI, 8, .inl st)), (mL, .inl (cZ, 8, .inl su)), (mK, .inl (cI, 8, .inl se)), (mB, .inl (cI, 16, .inl (wbF bb b9 k)))]) hw [] rfl rfl (x_runS (n := 2) (rest := [.int (nI (3 + k)), .ref mB]) (As := [.int b9, .int (nI k)]) S hw (m_byteOf l D cI cZ cV b9 (nI k) _) xh_3_30 xh_3_28 xh_3_29 xh_1_6 (by decide +kernel) ⟨by decide, by decide⟩ [] rfl rfl rfl hl.1 rfl (Nat.le_of_ble_eq_true rfl) dMO_wrap_114 ⟨by decide, by decide⟩) rfl rfl (fun H locs hw => ?_)
    refine x_iast S hw 4 0 rfl rfl (j := (3 + k)) (vp_in_nI (by omega) (by omega)) (nI_clamp (by omega)) (ws' := [(g, .inr (6, [.ref mP, .int cash, .int cnt, .ref mS, .ref mK, .ref mL, .ref mT, .ref mZ, .ref mD, .ref mH, .ref mG, .ref mC, .int cuts, .int lin, .ref m1, .ref m2, .ref m3, .ref m4, .ref mB, .int siz, .int ctr, .ref mX, .ref mY])), (mS, .inl (cI, 8, .inl st)), (mL, .inl (cZ, 8, .inl su)), (mK, .inl (cI, 8, .inl se)), (mB, .inl (cI, 16, .inl (upd (wbF bb b9 k) (3 + k) (fByt b9 (nI k)))))]) rfl dMO_wrap_117 (fun H locs hw => ?_)
    refine lv_iinc (v := nI (k + 1)) (lv' := [(5, .int (nI (k + 1))), (0, .ref g), (1, .int p0), (2, .int (nI a0)), (3, .int b9), (4, .int s9)]) hx hb dMO_wrap_118 hl (k := 5) rfl ((nI_succ _).symm) (by decide) rfl (fun ls hl => ?_)
    refine lv_goto (tgt := 97) hx hb dMO_wrap_121 (by decide) ?_
    have e0 : wbF bb b9 (k + 1) = upd (wbF bb b9 k) (3 + k) (fByt b9 (nI k)) := by simp only [wbF]
    refine ih (k + 1) ls H locs (by omega) ?_ ?_
    · rw [e0]; exact hw
    · exact lv_sub hl [1, 2, 3, 4, 5, 0] rfl

set_option maxHeartbeats 4000000 in
set_option maxRecDepth 100000 in
theorem m_wra_ok (l : Launch) (D : va_G) (cI cZ cV : ClassId) (g : Nat) (mP : Nat) (mS : Nat) (mK : Nat) (mL : Nat) (mT : Nat) (mZ : Nat) (mD : Nat) (mH : Nat) (mG : Nat) (mC : Nat) (m1 : Nat) (m2 : Nat) (m3 : Nat) (m4 : Nat) (mB : Nat) (mX : Nat) (mY : Nat) (cash : Int32) (cuts : Int32) (lin : Int32) (siz : Int32) (ctr : Int32) (st : Nat → Int32) (su : Nat → Int32) (se : Nat → Int32) (bb : Nat → Int32) (n1 : Nat) (a0 : Nat) (p0 : Int32) (hn : a0 < n1 ∧ n1 ≤ 8) (hs : st a0 = 1) (hall : ∀ v, v < a0 → ¬ st v = 1) (hl9 : su a0 = 0) : XI l yMO_wrap cMO_wrap 6 (some .int) D (xT3 cI cZ cV) 2 0 0 [.ref g, .int p0] [(g, .inr (6, [.ref mP, .int cash, .int (nI n1), .ref mS, .ref mK, .ref mL, .ref mT, .ref mZ, .ref mD, .ref mH, .ref mG, .ref mC, .int cuts, .int lin, .ref m1, .ref m2, .ref m3, .ref m4, .ref mB, .int siz, .int ctr, .ref mX, .ref mY])), (mS, .inl (cI, 8, .inl st)), (mL, .inl (cZ, 8, .inl su)), (mK, .inl (cI, 8, .inl se)), (mB, .inl (cI, 16, .inl bb))] (fun r u => r = nI a0 ∧ u = [(g, .inr (6, [.ref mP, .int cash, .int (nI n1), .ref mS, .ref mK, .ref mL, .ref mT, .ref mZ, .ref mD, .ref mH, .ref mG, .ref mC, .int cuts, .int lin, .ref m1, .ref m2, .ref m3, .ref m4, .ref mB, .int 9, .int (ctr + 1), .ref mX, .ref mY])), (mS, .inl (cI, 8, .inl st)), (mL, .inl (cZ, 8, .inl su)), (mK, .inl (cI, 8, .inl se)), (mB, .inl (cI, 16, .inl (upd (upd (wbF (upd (upd (upd bb 0 (nI a0)) 1 ((ctr >>> ((8 : Int32) &&& 31)) &&& 255)) 2 (ctr &&& 255)) (p0 ^^^ fPad (se a0) ctr) 4) 7 ((fTag (se a0) ctr (p0 ^^^ fPad (se a0) ctr)) >>> ((8 : Int32) &&& 31))) 8 ((fTag (se a0) ctr (p0 ^^^ fPad (se a0) ctr)) &&& 255))))]) := by
  intro sz
  refine x_ofW (Qc := fun A => va_Qi _ (xB D A) A) sz (by decide) (Nat.le_of_ble_eq_true rfl) ?_
  intro p e s m args below meth c A ls S hr hlk hnm hw hl
  obtain ⟨hx, hb, hml, hown, hts⟩ := id S
  have hl : lv_has ls 6 [(0, .ref g), (1, .int p0)] := hl
  refine lv_aload_n hx hb dMO_wrap_0 rfl (lv_at hl 0 rfl) ?_
  refine x_calliD (ws' := [(g, .inr (6, [.ref mP, .int cash, .int (nI n1), .ref mS, .ref mK, .ref mL, .ref mT, .ref mZ, .ref mD, .ref mH, .ref mG, .ref mC, .int cuts, .int lin, .ref m1, .ref m2, .ref m3, .ref m4, .ref mB, .int siz, .int ctr, .ref mX, .ref mY])), (mS, .inl (cI, 8, .inl st)), (mL, .inl (cZ, 8, .inl su)), (mK, .inl (cI, 8, .inl se)), (mB, .inl (cI, 16, .inl bb))]) hw [0, 1] rfl rfl (x_runV (n := 0) (rest := []) (As := []) S hw (m_act_some l D cI cZ cV g mP mS mK mL mT mZ mD mH mG mC m1 m2 m3 m4 mB mX mY cash cuts lin siz ctr st n1 a0 hn hs hall _) xh_2_238 xh_2_235 xh_2_237 xsel_MO_active xh_1_6 (by decide +kernel) ⟨by decide, by decide⟩ [0, 1] rfl rfl (ci := 6) (q0 := 0) rfl rfl rfl hl.1 rfl (Nat.le_of_ble_eq_true rfl) dMO_wrap_1 ⟨by decide, by decide⟩) rfl rfl (fun H locs hw => ?_)
  refine lv_istore_n (lv' := [(2, .int (nI a0)), (0, .ref g), (1, .int p0)]) hx hb dMO_wrap_4 rfl hl (by decide) rfl (fun ls hl => ?_)
  refine lv_iload_n hx hb dMO_wrap_5 rfl (lv_at hl 0 rfl) ?_
  refine lv_if_ge (tgt := 12) hx hb dMO_wrap_6 (by decide) (fun h6 => ?_) (fun h6 => absurd (nI_pos' (by omega)) h6)
  refine lv_aload_n hx hb dMO_wrap_12 rfl (lv_at hl 1 rfl) ?_
  refine x_get S hw (C := RMO) (T := TMO) (N := 23) inMO 0 rfl rfl 5 (by decide) xh_2_150 (v := .ref mL) rfl dMO_wrap_13 ?_
  refine lv_iload_n hx hb dMO_wrap_16 rfl (lv_at hl 0 rfl) ?_
  refine x_zald S hw 2 1 rfl rfl (j := a0) (vp_in_nI (by omega) (by omega)) (nI_clamp (by omega)) dMO_wrap_17 ?_
  refine lv_if_eq (tgt := 24) hx hb dMO_wrap_18 (by decide) (fun h18 => ?_) (fun h18 => absurd hl9 h18)
  refine lv_iload_n hx hb dMO_wrap_24 rfl (lv_at hl 2 rfl) ?_
  refine lv_aload_n hx hb dMO_wrap_25 rfl (lv_at hl 1 rfl) ?_
  refine x_get S hw (C := RMO) (T := TMO) (N := 23) inMO 0 rfl rfl 4 (by decide) xh_2_149 (v := .ref mK) rfl dMO_wrap_26 ?_
  refine lv_iload_n hx hb dMO_wrap_29 rfl (lv_at hl 0 rfl) ?_
  refine x_iald S hw 3 0 rfl rfl (j := a0) (vp_in_nI (by omega) (by omega)) (nI_clamp (by omega)) dMO_wrap_30 ?_
  refine lv_aload_n hx hb dMO_wrap_31 rfl (lv_at hl 1 rfl) ?_
  refine x_get S hw (C := RMO) (T := TMO) (N := 23) inMO 0 rfl rfl 20 (by decide) xh_2_165 (v := .int ctr) rfl dMO_wrap_32 ?_
  refine x_calliD (ws' := [(g, .inr (6, [.ref mP, .int cash, .int (nI n1), .ref mS, .ref mK, .ref mL, .ref mT, .ref mZ, .ref mD, .ref mH, .ref mG, .ref mC, .int cuts, .int lin, .ref m1, .ref m2, .ref m3, .ref m4, .ref mB, .int siz, .int ctr, .ref mX, .ref mY])), (mS, .inl (cI, 8, .inl st)), (mL, .inl (cZ, 8, .inl su)), (mK, .inl (cI, 8, .inl se)), (mB, .inl (cI, 16, .inl bb))]) hw [] rfl rfl (x_runS (n := 2) (rest := [.int p0]) (As := [.int (se a0), .int ctr]) S hw (m_mask l D cI cZ cV (se a0) ctr _) xh_3_64 xh_3_62 xh_3_63 xh_1_6 (by decide +kernel) ⟨by decide, by decide⟩ [] rfl rfl rfl hl.1 rfl (Nat.le_of_ble_eq_true rfl) dMO_wrap_35 ⟨by decide, by decide⟩) rfl rfl (fun H locs hw => ?_)
  refine lv_ixor hx hb dMO_wrap_38 ?_
  refine lv_istore_n (lv' := [(3, .int (p0 ^^^ (fPad (se a0) ctr))), (2, .int (nI a0)), (0, .ref g), (1, .int p0)]) hx hb dMO_wrap_39 rfl hl (by decide) rfl (fun ls hl => ?_)
  refine lv_aload_n hx hb dMO_wrap_40 rfl (lv_at hl 2 rfl) ?_
  refine x_get S hw (C := RMO) (T := TMO) (N := 23) inMO 0 rfl rfl 4 (by decide) xh_2_149 (v := .ref mK) rfl dMO_wrap_41 ?_
  refine lv_iload_n hx hb dMO_wrap_44 rfl (lv_at hl 1 rfl) ?_
  refine x_iald S hw 3 0 rfl rfl (j := a0) (vp_in_nI (by omega) (by omega)) (nI_clamp (by omega)) dMO_wrap_45 ?_
  refine lv_aload_n hx hb dMO_wrap_46 rfl (lv_at hl 2 rfl) ?_
  refine x_get S hw (C := RMO) (T := TMO) (N := 23) inMO 0 rfl rfl 20 (by decide) xh_2_165 (v := .int ctr) rfl dMO_wrap_47 ?_
  refine lv_iload_n hx hb dMO_wrap_50 rfl (lv_at hl 0 rfl) ?_
  refine x_calliD (ws' := [(g, .inr (6, [.ref mP, .int cash, .int (nI n1), .ref mS, .ref mK, .ref mL, .ref mT, .ref mZ, .ref mD, .ref mH, .ref mG, .ref mC, .int cuts, .int lin, .ref m1, .ref m2, .ref m3, .ref m4, .ref mB, .int siz, .int ctr, .ref mX, .ref mY])), (mS, .inl (cI, 8, .inl st)), (mL, .inl (cZ, 8, .inl su)), (mK, .inl (cI, 8, .inl se)), (mB, .inl (cI, 16, .inl bb))]) hw [] rfl rfl (x_runS (n := 3) (rest := []) (As := [.int (se a0), .int ctr, .int (p0 ^^^ (fPad (se a0) ctr))]) S hw (m_mark l D cI cZ cV (se a0) ctr (p0 ^^^ (fPad (se a0) ctr)) _) xh_3_67 xh_3_65 xh_3_66 xh_1_6 (by decide +kernel) ⟨by decide, by decide⟩ [] rfl rfl rfl hl.1 rfl (Nat.le_of_ble_eq_true rfl) dMO_wrap_51 ⟨by decide, by decide⟩) rfl rfl (fun H locs hw => ?_)
  refine lv_istore (lv' := [(4, .int (fTag (se a0) ctr (p0 ^^^ (fPad (se a0) ctr)))), (3, .int (p0 ^^^ (fPad (se a0) ctr))), (2, .int (nI a0)), (0, .ref g), (1, .int p0)]) hx hb dMO_wrap_54 hl (by decide) rfl (fun ls hl => ?_)
  refine lv_aload_n hx hb dMO_wrap_56 rfl (lv_at hl 3 rfl) ?_
  refine x_get S hw (C := RMO) (T := TMO) (N := 23) inMO 0 rfl rfl 18 (by decide) xh_2_163 (v := .ref mB) rfl dMO_wrap_57 ?_
  refine lv_iconst (v := 0) hx hb dMO_wrap_60 (by decide) ?_
  refine lv_iload_n hx hb dMO_wrap_61 rfl (lv_at hl 2 rfl) ?_
  refine x_iast S hw 4 0 rfl rfl (j := 0) (vp_in_nI (n := 0) (by decide) (by decide)) (nI_clamp (n := 0) (by decide)) (ws' := [(g, .inr (6, [.ref mP, .int cash, .int (nI n1), .ref mS, .ref mK, .ref mL, .ref mT, .ref mZ, .ref mD, .ref mH, .ref mG, .ref mC, .int cuts, .int lin, .ref m1, .ref m2, .ref m3, .ref m4, .ref mB, .int siz, .int ctr, .ref mX, .ref mY])), (mS, .inl (cI, 8, .inl st)), (mL, .inl (cZ, 8, .inl su)), (mK, .inl (cI, 8, .inl se)), (mB, .inl (cI, 16, .inl (upd bb 0 (nI a0))))]) rfl dMO_wrap_62 (fun H locs hw => ?_)
  refine lv_aload_n hx hb dMO_wrap_63 rfl (lv_at hl 3 rfl) ?_
  refine x_get S hw (C := RMO) (T := TMO) (N := 23) inMO 0 rfl rfl 18 (by decide) xh_2_163 (v := .ref mB) rfl dMO_wrap_64 ?_
  refine lv_iconst (v := 1) hx hb dMO_wrap_67 (by decide) ?_
  refine lv_aload_n hx hb dMO_wrap_68 rfl (lv_at hl 3 rfl) ?_
  refine x_get S hw (C := RMO) (T := TMO) (N := 23) inMO 0 rfl rfl 20 (by decide) xh_2_165 (v := .int ctr) rfl dMO_wrap_69 ?_
  refine lv_bipush (v := 8) hx hb dMO_wrap_72 (by decide) ?_
  refine lv_ishr hx hb dMO_wrap_74 ?_
  refine lv_sipush (v := 255) hx hb dMO_wrap_75 (by decide) ?_
  refine lv_iand hx hb dMO_wrap_78 ?_
  refine x_iast S hw 4 0 rfl rfl (j := 1) (vp_in_nI (n := 1) (by decide) (by decide)) (nI_clamp (n := 1) (by decide)) (ws' := [(g, .inr (6, [.ref mP, .int cash, .int (nI n1), .ref mS, .ref mK, .ref mL, .ref mT, .ref mZ, .ref mD, .ref mH, .ref mG, .ref mC, .int cuts, .int lin, .ref m1, .ref m2, .ref m3, .ref m4, .ref mB, .int siz, .int ctr, .ref mX, .ref mY])), (mS, .inl (cI, 8, .inl st)), (mL, .inl (cZ, 8, .inl su)), (mK, .inl (cI, 8, .inl se)), (mB, .inl (cI, 16, .inl (upd (upd bb 0 (nI a0)) 1 ((ctr >>> ((8 : Int32) &&& 31)) &&& 255))))]) rfl dMO_wrap_79 (fun H locs hw => ?_)
  refine lv_aload_n hx hb dMO_wrap_80 rfl (lv_at hl 3 rfl) ?_
  refine x_get S hw (C := RMO) (T := TMO) (N := 23) inMO 0 rfl rfl 18 (by decide) xh_2_163 (v := .ref mB) rfl dMO_wrap_81 ?_
  refine lv_iconst (v := 2) hx hb dMO_wrap_84 (by decide) ?_
  refine lv_aload_n hx hb dMO_wrap_85 rfl (lv_at hl 3 rfl) ?_
  refine x_get S hw (C := RMO) (T := TMO) (N := 23) inMO 0 rfl rfl 20 (by decide) xh_2_165 (v := .int ctr) rfl dMO_wrap_86 ?_
  refine lv_sipush (v := 255) hx hb dMO_wrap_89 (by decide) ?_
  refine lv_iand hx hb dMO_wrap_92 ?_
  refine x_iast S hw 4 0 rfl rfl (j := 2) (vp_in_nI (n := 2) (by decide) (by decide)) (nI_clamp (n := 2) (by decide)) (ws' := [(g, .inr (6, [.ref mP, .int cash, .int (nI n1), .ref mS, .ref mK, .ref mL, .ref mT, .ref mZ, .ref mD, .ref mH, .ref mG, .ref mC, .int cuts, .int lin, .ref m1, .ref m2, .ref m3, .ref m4, .ref mB, .int siz, .int ctr, .ref mX, .ref mY])), (mS, .inl (cI, 8, .inl st)), (mL, .inl (cZ, 8, .inl su)), (mK, .inl (cI, 8, .inl se)), (mB, .inl (cI, 16, .inl (upd (upd (upd bb 0 (nI a0)) 1 ((ctr >>> ((8 : Int32) &&& 31)) &&& 255)) 2 (ctr &&& 255))))]) rfl dMO_wrap_93 (fun H locs hw => ?_)
  refine lv_iconst (v := 0) hx hb dMO_wrap_94 (by decide) ?_
  refine lv_istore (lv' := [(5, .int 0), (4, .int (fTag (se a0) ctr (p0 ^^^ (fPad (se a0) ctr)))), (3, .int (p0 ^^^ (fPad (se a0) ctr))), (2, .int (nI a0)), (0, .ref g), (1, .int p0)]) hx hb dMO_wrap_95 hl (by decide) rfl (fun ls hl => ?_)
  refine ml_wrap rfl ⟨rfl, rfl⟩ S g mP mS mK mL mT mZ mD mH mG mC m1 m2 m3 m4 mB mX mY cash (nI n1) cuts lin siz ctr st su se (upd (upd (upd bb 0 (nI a0)) 1 ((ctr >>> ((8 : Int32) &&& 31)) &&& 255)) 2 (ctr &&& 255)) p0 (p0 ^^^ fPad (se a0) ctr) (fTag (se a0) ctr (p0 ^^^ fPad (se a0) ctr)) a0 (fun ls H locs hw hl => ?_) 4 0 ls _ _ (Nat.zero_add _) hw (lv_sub hl [4, 5, 3, 2, 1, 0] rfl)
  refine lv_aload_n hx hb dMO_wrap_124 rfl (lv_at hl 0 rfl) ?_
  refine x_get S hw (C := RMO) (T := TMO) (N := 23) inMO 0 rfl rfl 18 (by decide) xh_2_163 (v := .ref mB) rfl dMO_wrap_125 ?_
  refine lv_bipush (v := 7) hx hb dMO_wrap_128 (by decide) ?_
  refine lv_iload hx hb dMO_wrap_130 (lv_at hl 4 rfl) ?_
  refine lv_bipush (v := 8) hx hb dMO_wrap_132 (by decide) ?_
  refine lv_ishr hx hb dMO_wrap_134 ?_
  refine x_iast S hw 4 0 rfl rfl (j := 7) (vp_in_nI (n := 7) (by decide) (by decide)) (nI_clamp (n := 7) (by decide)) (ws' := [(g, .inr (6, [.ref mP, .int cash, .int (nI n1), .ref mS, .ref mK, .ref mL, .ref mT, .ref mZ, .ref mD, .ref mH, .ref mG, .ref mC, .int cuts, .int lin, .ref m1, .ref m2, .ref m3, .ref m4, .ref mB, .int siz, .int ctr, .ref mX, .ref mY])), (mS, .inl (cI, 8, .inl st)), (mL, .inl (cZ, 8, .inl su)), (mK, .inl (cI, 8, .inl se)), (mB, .inl (cI, 16, .inl (upd (wbF (upd (upd (upd bb 0 (nI a0)) 1 ((ctr >>> ((8 : Int32) &&& 31)) &&& 255)) 2 (ctr &&& 255)) (p0 ^^^ fPad (se a0) ctr) 4) 7 ((fTag (se a0) ctr (p0 ^^^ fPad (se a0) ctr)) >>> ((8 : Int32) &&& 31)))))]) rfl dMO_wrap_135 (fun H locs hw => ?_)
  refine lv_aload_n hx hb dMO_wrap_136 rfl (lv_at hl 0 rfl) ?_
  refine x_get S hw (C := RMO) (T := TMO) (N := 23) inMO 0 rfl rfl 18 (by decide) xh_2_163 (v := .ref mB) rfl dMO_wrap_137 ?_
  refine lv_bipush (v := 8) hx hb dMO_wrap_140 (by decide) ?_
  refine lv_iload hx hb dMO_wrap_142 (lv_at hl 4 rfl) ?_
  refine lv_sipush (v := 255) hx hb dMO_wrap_144 (by decide) ?_
  refine lv_iand hx hb dMO_wrap_147 ?_
  refine x_iast S hw 4 0 rfl rfl (j := 8) (vp_in_nI (n := 8) (by decide) (by decide)) (nI_clamp (n := 8) (by decide)) (ws' := [(g, .inr (6, [.ref mP, .int cash, .int (nI n1), .ref mS, .ref mK, .ref mL, .ref mT, .ref mZ, .ref mD, .ref mH, .ref mG, .ref mC, .int cuts, .int lin, .ref m1, .ref m2, .ref m3, .ref m4, .ref mB, .int siz, .int ctr, .ref mX, .ref mY])), (mS, .inl (cI, 8, .inl st)), (mL, .inl (cZ, 8, .inl su)), (mK, .inl (cI, 8, .inl se)), (mB, .inl (cI, 16, .inl (upd (upd (wbF (upd (upd (upd bb 0 (nI a0)) 1 ((ctr >>> ((8 : Int32) &&& 31)) &&& 255)) 2 (ctr &&& 255)) (p0 ^^^ fPad (se a0) ctr) 4) 7 ((fTag (se a0) ctr (p0 ^^^ fPad (se a0) ctr)) >>> ((8 : Int32) &&& 31))) 8 (fTag (se a0) ctr (p0 ^^^ fPad (se a0) ctr) &&& 255))))]) rfl dMO_wrap_148 (fun H locs hw => ?_)
  refine lv_aload_n hx hb dMO_wrap_149 rfl (lv_at hl 0 rfl) ?_
  refine lv_bipush (v := 9) hx hb dMO_wrap_150 (by decide) ?_
  refine x_put S hw (C := RMO) (T := TMO) (N := 23) inMO tyMO tyMO_ok nmMO 0 rfl rfl 19 (by decide) xh_2_164 rfl (v := .int 9) rfl rfl (Nat.le_of_ble_eq_true rfl) (ws' := [(g, .inr (6, [.ref mP, .int cash, .int (nI n1), .ref mS, .ref mK, .ref mL, .ref mT, .ref mZ, .ref mD, .ref mH, .ref mG, .ref mC, .int cuts, .int lin, .ref m1, .ref m2, .ref m3, .ref m4, .ref mB, .int 9, .int ctr, .ref mX, .ref mY])), (mS, .inl (cI, 8, .inl st)), (mL, .inl (cZ, 8, .inl su)), (mK, .inl (cI, 8, .inl se)), (mB, .inl (cI, 16, .inl (upd (upd (wbF (upd (upd (upd bb 0 (nI a0)) 1 ((ctr >>> ((8 : Int32) &&& 31)) &&& 255)) 2 (ctr &&& 255)) (p0 ^^^ fPad (se a0) ctr) 4) 7 ((fTag (se a0) ctr (p0 ^^^ fPad (se a0) ctr)) >>> ((8 : Int32) &&& 31))) 8 (fTag (se a0) ctr (p0 ^^^ fPad (se a0) ctr) &&& 255))))]) rfl dMO_wrap_152 (fun H locs hw => ?_)
  refine lv_aload_n hx hb dMO_wrap_155 rfl (lv_at hl 0 rfl) ?_
  refine lv_dup hx hb dMO_wrap_156 rfl ?_
  refine x_get S hw (C := RMO) (T := TMO) (N := 23) inMO 0 rfl rfl 20 (by decide) xh_2_165 (v := .int ctr) rfl dMO_wrap_157 ?_
  refine lv_iconst (v := 1) hx hb dMO_wrap_160 (by decide) ?_
  refine lv_iadd hx hb dMO_wrap_161 ?_
  refine x_put S hw (C := RMO) (T := TMO) (N := 23) inMO tyMO tyMO_ok nmMO 0 rfl rfl 20 (by decide) xh_2_165 rfl (v := .int (ctr + 1)) rfl rfl (Nat.le_of_ble_eq_true rfl) (ws' := [(g, .inr (6, [.ref mP, .int cash, .int (nI n1), .ref mS, .ref mK, .ref mL, .ref mT, .ref mZ, .ref mD, .ref mH, .ref mG, .ref mC, .int cuts, .int lin, .ref m1, .ref m2, .ref m3, .ref m4, .ref mB, .int 9, .int (ctr + 1), .ref mX, .ref mY])), (mS, .inl (cI, 8, .inl st)), (mL, .inl (cZ, 8, .inl su)), (mK, .inl (cI, 8, .inl se)), (mB, .inl (cI, 16, .inl (upd (upd (wbF (upd (upd (upd bb 0 (nI a0)) 1 ((ctr >>> ((8 : Int32) &&& 31)) &&& 255)) 2 (ctr &&& 255)) (p0 ^^^ fPad (se a0) ctr) 4) 7 ((fTag (se a0) ctr (p0 ^^^ fPad (se a0) ctr)) >>> ((8 : Int32) &&& 31))) 8 (fTag (se a0) ctr (p0 ^^^ fPad (se a0) ctr) &&& 255))))]) rfl dMO_wrap_162 (fun H locs hw => ?_)
  refine lv_iload_n hx hb dMO_wrap_165 rfl (lv_at hl 2 rfl) ?_
  exact x_iret S hr hlk hw (by decide) (by decide) (⟨rfl, rfl⟩) dMO_wrap_166

set_option maxHeartbeats 4000000 in
set_option maxRecDepth 100000 in
theorem m_unw_shape (l : Launch) (D : va_G) (cI cZ cV : ClassId) (g : Nat) (mP : Nat) (mS : Nat) (mK : Nat) (mL : Nat) (mT : Nat) (mZ : Nat) (mD : Nat) (mH : Nat) (mG : Nat) (mC : Nat) (m1 : Nat) (m2 : Nat) (m3 : Nat) (m4 : Nat) (mB : Nat) (mX : Nat) (mY : Nat) (cash : Int32) (cnt : Int32) (cuts : Int32) (lin : Int32) (siz : Int32) (ctr : Int32) (hz : ¬ siz = 9) : XL l yMO_unwrap cMO_unwrap 5 (some .long) D (xT3 cI cZ cV) 1 0 0 [.ref g] [(g, .inr (6, [.ref mP, .int cash, .int cnt, .ref mS, .ref mK, .ref mL, .ref mT, .ref mZ, .ref mD, .ref mH, .ref mG, .ref mC, .int cuts, .int lin, .ref m1, .ref m2, .ref m3, .ref m4, .ref mB, .int siz, .int ctr, .ref mX, .ref mY]))] (fun r u => r = -5 ∧ u = [(g, .inr (6, [.ref mP, .int cash, .int cnt, .ref mS, .ref mK, .ref mL, .ref mT, .ref mZ, .ref mD, .ref mH, .ref mG, .ref mC, .int cuts, .int lin, .ref m1, .ref m2, .ref m3, .ref m4, .ref mB, .int siz, .int ctr, .ref mX, .ref mY]))]) := by
  intro sz
  refine x_ofW (Qc := fun A => va_Ql _ (xB D A) A) sz (by decide) (Nat.le_of_ble_eq_true rfl) ?_
  intro p e s m args below meth c A ls S hr hlk hnm hw hl
  obtain ⟨hx, hb, hml, hown, hts⟩ := id S
  have hl : lv_has ls 5 [(0, .ref g)] := hl
  refine lv_aload_n hx hb dMO_unwrap_0 rfl (lv_at hl 0 rfl) ?_
  refine x_get S hw (C := RMO) (T := TMO) (N := 23) inMO 0 rfl rfl 19 (by decide) xh_2_164 (v := .int siz) rfl dMO_unwrap_1 ?_
  refine lv_bipush (v := 9) hx hb dMO_unwrap_4 (by decide) ?_
  refine lv_icmp_eq (tgt := 13) hx hb dMO_unwrap_6 (by decide) (fun h6 => absurd h6 hz) (fun h6 => ?_)
  refine lv_ldc2 hx hb hown (hts _ xh_3_73) dMO_unwrap_9 ?_
  exact x_lret S hr hlk hw (by decide) (by decide) (⟨rfl, rfl⟩) dMO_unwrap_12

set_option maxHeartbeats 4000000 in
set_option maxRecDepth 100000 in
theorem m_unw_no (l : Launch) (D : va_G) (cI cZ cV : ClassId) (g : Nat) (mP : Nat) (mS : Nat) (mK : Nat) (mL : Nat) (mT : Nat) (mZ : Nat) (mD : Nat) (mH : Nat) (mG : Nat) (mC : Nat) (m1 : Nat) (m2 : Nat) (m3 : Nat) (m4 : Nat) (mB : Nat) (mX : Nat) (mY : Nat) (cash : Int32) (cnt : Int32) (cuts : Int32) (lin : Int32) (siz : Int32) (ctr : Int32) (bb : Nat → Int32) (hz : siz = 9) (hv : bb 0 < 0 ∨ cnt ≤ bb 0) : XL l yMO_unwrap cMO_unwrap 5 (some .long) D (xT3 cI cZ cV) 1 0 0 [.ref g] [(g, .inr (6, [.ref mP, .int cash, .int cnt, .ref mS, .ref mK, .ref mL, .ref mT, .ref mZ, .ref mD, .ref mH, .ref mG, .ref mC, .int cuts, .int lin, .ref m1, .ref m2, .ref m3, .ref m4, .ref mB, .int siz, .int ctr, .ref mX, .ref mY])), (mB, .inl (cI, 16, .inl bb))] (fun r u => r = -1 ∧ u = [(g, .inr (6, [.ref mP, .int cash, .int cnt, .ref mS, .ref mK, .ref mL, .ref mT, .ref mZ, .ref mD, .ref mH, .ref mG, .ref mC, .int cuts, .int lin, .ref m1, .ref m2, .ref m3, .ref m4, .ref mB, .int siz, .int ctr, .ref mX, .ref mY])), (mB, .inl (cI, 16, .inl bb))]) := by
  intro sz
  refine x_ofW (Qc := fun A => va_Ql _ (xB D A) A) sz (by decide) (Nat.le_of_ble_eq_true rfl) ?_
  intro p e s m args below meth c A ls S hr hlk hnm hw hl
  obtain ⟨hx, hb, hml, hown, hts⟩ := id S
  have hl : lv_has ls 5 [(0, .ref g)] := hl
  refine lv_aload_n hx hb dMO_unwrap_0 rfl (lv_at hl 0 rfl) ?_
  refine x_get S hw (C := RMO) (T := TMO) (N := 23) inMO 0 rfl rfl 19 (by decide) xh_2_164 (v := .int siz) rfl dMO_unwrap_1 ?_
  refine lv_bipush (v := 9) hx hb dMO_unwrap_4 (by decide) ?_
  refine lv_icmp_eq (tgt := 13) hx hb dMO_unwrap_6 (by decide) (fun h6 => ?_) (fun h6 => absurd hz h6)
  refine lv_aload_n hx hb dMO_unwrap_13 rfl (lv_at hl 0 rfl) ?_
  refine x_get S hw (C := RMO) (T := TMO) (N := 23) inMO 0 rfl rfl 18 (by decide) xh_2_163 (v := .ref mB) rfl dMO_unwrap_14 ?_
  refine lv_iconst (v := 0) hx hb dMO_unwrap_17 (by decide) ?_
  refine x_iald S hw 1 0 rfl rfl (j := 0) (vp_in_nI (n := 0) (by decide) (by decide)) (nI_clamp (n := 0) (by decide)) dMO_unwrap_18 ?_
  refine lv_istore_n (lv' := [(1, .int (bb 0)), (0, .ref g)]) hx hb dMO_unwrap_19 rfl hl (by decide) rfl (fun ls hl => ?_)
  refine lv_aload_n hx hb dMO_unwrap_20 rfl (lv_at hl 1 rfl) ?_
  refine lv_iload_n hx hb dMO_unwrap_21 rfl (lv_at hl 0 rfl) ?_
  refine x_calliD (ws' := [(g, .inr (6, [.ref mP, .int cash, .int cnt, .ref mS, .ref mK, .ref mL, .ref mT, .ref mZ, .ref mD, .ref mH, .ref mG, .ref mC, .int cuts, .int lin, .ref m1, .ref m2, .ref m3, .ref m4, .ref mB, .int siz, .int ctr, .ref mX, .ref mY])), (mB, .inl (cI, 16, .inl bb))]) hw [0] rfl rfl (x_runV (n := 1) (rest := []) (As := [.int (bb 0)]) S hw (m_none_y l D cI cZ cV g mP mS mK mL mT mZ mD mH mG mC m1 m2 m3 m4 mB mX mY cash cnt cuts lin siz ctr (bb 0) hv _) xh_3_19 xh_3_16 xh_3_18 xsel_MO_none xh_1_6 (by decide +kernel) ⟨by decide, by decide⟩ [0] rfl rfl (ci := 6) (q0 := 0) rfl rfl rfl hl.1 rfl (Nat.le_of_ble_eq_true rfl) dMO_unwrap_22 ⟨by decide, by decide⟩) rfl rfl (fun H locs hw => ?_)
  refine lv_if_eq (tgt := 32) hx hb dMO_unwrap_25 (by decide) (fun h25 => absurd h25 (by decide)) (fun h25 => ?_)
  refine lv_ldc2 hx hb hown (hts _ xh_3_74) dMO_unwrap_28 ?_
  exact x_lret S hr hlk hw (by decide) (by decide) (⟨rfl, rfl⟩) dMO_unwrap_31

set_option maxHeartbeats 4000000 in
set_option maxRecDepth 100000 in
theorem m_unw_gone (l : Launch) (D : va_G) (cI cZ cV : ClassId) (g : Nat) (mP : Nat) (mS : Nat) (mK : Nat) (mL : Nat) (mT : Nat) (mZ : Nat) (mD : Nat) (mH : Nat) (mG : Nat) (mC : Nat) (m1 : Nat) (m2 : Nat) (m3 : Nat) (m4 : Nat) (mB : Nat) (mX : Nat) (mY : Nat) (cash : Int32) (cuts : Int32) (lin : Int32) (siz : Int32) (ctr : Int32) (n1 : Nat) (k0 : Nat) (bb : Nat → Int32) (st : Nat → Int32) (hz : siz = 9) (hb0 : bb 0 = nI k0) (hk : k0 < n1 ∧ n1 ≤ 8) (hs : st k0 = 3) : XL l yMO_unwrap cMO_unwrap 5 (some .long) D (xT3 cI cZ cV) 1 0 0 [.ref g] [(g, .inr (6, [.ref mP, .int cash, .int (nI n1), .ref mS, .ref mK, .ref mL, .ref mT, .ref mZ, .ref mD, .ref mH, .ref mG, .ref mC, .int cuts, .int lin, .ref m1, .ref m2, .ref m3, .ref m4, .ref mB, .int siz, .int ctr, .ref mX, .ref mY])), (mB, .inl (cI, 16, .inl bb)), (mS, .inl (cI, 8, .inl st))] (fun r u => r = -6 ∧ u = [(g, .inr (6, [.ref mP, .int cash, .int (nI n1), .ref mS, .ref mK, .ref mL, .ref mT, .ref mZ, .ref mD, .ref mH, .ref mG, .ref mC, .int cuts, .int lin, .ref m1, .ref m2, .ref m3, .ref m4, .ref mB, .int siz, .int ctr, .ref mX, .ref mY])), (mB, .inl (cI, 16, .inl bb)), (mS, .inl (cI, 8, .inl st))]) := by
  intro sz
  refine x_ofW (Qc := fun A => va_Ql _ (xB D A) A) sz (by decide) (Nat.le_of_ble_eq_true rfl) ?_
  intro p e s m args below meth c A ls S hr hlk hnm hw hl
  obtain ⟨hx, hb, hml, hown, hts⟩ := id S
  have hl : lv_has ls 5 [(0, .ref g)] := hl
  refine lv_aload_n hx hb dMO_unwrap_0 rfl (lv_at hl 0 rfl) ?_
  refine x_get S hw (C := RMO) (T := TMO) (N := 23) inMO 0 rfl rfl 19 (by decide) xh_2_164 (v := .int siz) rfl dMO_unwrap_1 ?_
  refine lv_bipush (v := 9) hx hb dMO_unwrap_4 (by decide) ?_
  refine lv_icmp_eq (tgt := 13) hx hb dMO_unwrap_6 (by decide) (fun h6 => ?_) (fun h6 => absurd hz h6)
  refine lv_aload_n hx hb dMO_unwrap_13 rfl (lv_at hl 0 rfl) ?_
  refine x_get S hw (C := RMO) (T := TMO) (N := 23) inMO 0 rfl rfl 18 (by decide) xh_2_163 (v := .ref mB) rfl dMO_unwrap_14 ?_
  refine lv_iconst (v := 0) hx hb dMO_unwrap_17 (by decide) ?_
  refine x_iald S hw 1 0 rfl rfl (j := 0) (vp_in_nI (n := 0) (by decide) (by decide)) (nI_clamp (n := 0) (by decide)) dMO_unwrap_18 ?_
  refine x_topi (y := nI k0) (hb0) ?_
  refine lv_istore_n (lv' := [(1, .int (nI k0)), (0, .ref g)]) hx hb dMO_unwrap_19 rfl hl (by decide) rfl (fun ls hl => ?_)
  refine lv_aload_n hx hb dMO_unwrap_20 rfl (lv_at hl 1 rfl) ?_
  refine lv_iload_n hx hb dMO_unwrap_21 rfl (lv_at hl 0 rfl) ?_
  refine x_calliD (ws' := [(g, .inr (6, [.ref mP, .int cash, .int (nI n1), .ref mS, .ref mK, .ref mL, .ref mT, .ref mZ, .ref mD, .ref mH, .ref mG, .ref mC, .int cuts, .int lin, .ref m1, .ref m2, .ref m3, .ref m4, .ref mB, .int siz, .int ctr, .ref mX, .ref mY])), (mB, .inl (cI, 16, .inl bb)), (mS, .inl (cI, 8, .inl st))]) hw [0] rfl rfl (x_runV (n := 1) (rest := []) (As := [.int (nI k0)]) S hw (m_none_n l D cI cZ cV g mP mS mK mL mT mZ mD mH mG mC m1 m2 m3 m4 mB mX mY cash cuts lin siz ctr n1 k0 hk _) xh_3_19 xh_3_16 xh_3_18 xsel_MO_none xh_1_6 (by decide +kernel) ⟨by decide, by decide⟩ [0] rfl rfl (ci := 6) (q0 := 0) rfl rfl rfl hl.1 rfl (Nat.le_of_ble_eq_true rfl) dMO_unwrap_22 ⟨by decide, by decide⟩) rfl rfl (fun H locs hw => ?_)
  refine lv_if_eq (tgt := 32) hx hb dMO_unwrap_25 (by decide) (fun h25 => ?_) (fun h25 => absurd rfl h25)
  refine lv_aload_n hx hb dMO_unwrap_32 rfl (lv_at hl 1 rfl) ?_
  refine x_get S hw (C := RMO) (T := TMO) (N := 23) inMO 0 rfl rfl 3 (by decide) xh_2_148 (v := .ref mS) rfl dMO_unwrap_33 ?_
  refine lv_iload_n hx hb dMO_unwrap_36 rfl (lv_at hl 0 rfl) ?_
  refine x_iald S hw 2 0 rfl rfl (j := k0) (vp_in_nI (by omega) (by omega)) (nI_clamp (by omega)) dMO_unwrap_37 ?_
  refine lv_iconst (v := 3) hx hb dMO_unwrap_38 (by decide) ?_
  refine lv_icmp_ne (tgt := 46) hx hb dMO_unwrap_39 (by decide) (fun h39 => absurd hs h39) (fun h39 => ?_)
  refine lv_ldc2 hx hb hown (hts _ xh_3_75) dMO_unwrap_42 ?_
  exact x_lret S hr hlk hw (by decide) (by decide) (⟨rfl, rfl⟩) dMO_unwrap_45

set_option maxHeartbeats 4000000 in
set_option maxRecDepth 100000 in
theorem m_unw_lock (l : Launch) (D : va_G) (cI cZ cV : ClassId) (g : Nat) (mP : Nat) (mS : Nat) (mK : Nat) (mL : Nat) (mT : Nat) (mZ : Nat) (mD : Nat) (mH : Nat) (mG : Nat) (mC : Nat) (m1 : Nat) (m2 : Nat) (m3 : Nat) (m4 : Nat) (mB : Nat) (mX : Nat) (mY : Nat) (cash : Int32) (cuts : Int32) (lin : Int32) (siz : Int32) (ctr : Int32) (n1 : Nat) (k0 : Nat) (bb : Nat → Int32) (st : Nat → Int32) (su : Nat → Int32) (hz : siz = 9) (hb0 : bb 0 = nI k0) (hk : k0 < n1 ∧ n1 ≤ 8) (hs : ¬ st k0 = 3) (hl9 : ¬ su k0 = 0) : XL l yMO_unwrap cMO_unwrap 5 (some .long) D (xT3 cI cZ cV) 1 0 0 [.ref g] [(g, .inr (6, [.ref mP, .int cash, .int (nI n1), .ref mS, .ref mK, .ref mL, .ref mT, .ref mZ, .ref mD, .ref mH, .ref mG, .ref mC, .int cuts, .int lin, .ref m1, .ref m2, .ref m3, .ref m4, .ref mB, .int siz, .int ctr, .ref mX, .ref mY])), (mB, .inl (cI, 16, .inl bb)), (mS, .inl (cI, 8, .inl st)), (mL, .inl (cZ, 8, .inl su))] (fun r u => r = -7 ∧ u = [(g, .inr (6, [.ref mP, .int cash, .int (nI n1), .ref mS, .ref mK, .ref mL, .ref mT, .ref mZ, .ref mD, .ref mH, .ref mG, .ref mC, .int cuts, .int lin, .ref m1, .ref m2, .ref m3, .ref m4, .ref mB, .int siz, .int ctr, .ref mX, .ref mY])), (mB, .inl (cI, 16, .inl bb)), (mS, .inl (cI, 8, .inl st)), (mL, .inl (cZ, 8, .inl su))]) := by
  intro sz
  refine x_ofW (Qc := fun A => va_Ql _ (xB D A) A) sz (by decide) (Nat.le_of_ble_eq_true rfl) ?_
  intro p e s m args below meth c A ls S hr hlk hnm hw hl
  obtain ⟨hx, hb, hml, hown, hts⟩ := id S
  have hl : lv_has ls 5 [(0, .ref g)] := hl
  refine lv_aload_n hx hb dMO_unwrap_0 rfl (lv_at hl 0 rfl) ?_
  refine x_get S hw (C := RMO) (T := TMO) (N := 23) inMO 0 rfl rfl 19 (by decide) xh_2_164 (v := .int siz) rfl dMO_unwrap_1 ?_
  refine lv_bipush (v := 9) hx hb dMO_unwrap_4 (by decide) ?_
  refine lv_icmp_eq (tgt := 13) hx hb dMO_unwrap_6 (by decide) (fun h6 => ?_) (fun h6 => absurd hz h6)
  refine lv_aload_n hx hb dMO_unwrap_13 rfl (lv_at hl 0 rfl) ?_
  refine x_get S hw (C := RMO) (T := TMO) (N := 23) inMO 0 rfl rfl 18 (by decide) xh_2_163 (v := .ref mB) rfl dMO_unwrap_14 ?_
  refine lv_iconst (v := 0) hx hb dMO_unwrap_17 (by decide) ?_
  refine x_iald S hw 1 0 rfl rfl (j := 0) (vp_in_nI (n := 0) (by decide) (by decide)) (nI_clamp (n := 0) (by decide)) dMO_unwrap_18 ?_
  refine x_topi (y := nI k0) (hb0) ?_
  refine lv_istore_n (lv' := [(1, .int (nI k0)), (0, .ref g)]) hx hb dMO_unwrap_19 rfl hl (by decide) rfl (fun ls hl => ?_)
  refine lv_aload_n hx hb dMO_unwrap_20 rfl (lv_at hl 1 rfl) ?_
  refine lv_iload_n hx hb dMO_unwrap_21 rfl (lv_at hl 0 rfl) ?_
  refine x_calliD (ws' := [(g, .inr (6, [.ref mP, .int cash, .int (nI n1), .ref mS, .ref mK, .ref mL, .ref mT, .ref mZ, .ref mD, .ref mH, .ref mG, .ref mC, .int cuts, .int lin, .ref m1, .ref m2, .ref m3, .ref m4, .ref mB, .int siz, .int ctr, .ref mX, .ref mY])), (mB, .inl (cI, 16, .inl bb)), (mS, .inl (cI, 8, .inl st)), (mL, .inl (cZ, 8, .inl su))]) hw [0] rfl rfl (x_runV (n := 1) (rest := []) (As := [.int (nI k0)]) S hw (m_none_n l D cI cZ cV g mP mS mK mL mT mZ mD mH mG mC m1 m2 m3 m4 mB mX mY cash cuts lin siz ctr n1 k0 hk _) xh_3_19 xh_3_16 xh_3_18 xsel_MO_none xh_1_6 (by decide +kernel) ⟨by decide, by decide⟩ [0] rfl rfl (ci := 6) (q0 := 0) rfl rfl rfl hl.1 rfl (Nat.le_of_ble_eq_true rfl) dMO_unwrap_22 ⟨by decide, by decide⟩) rfl rfl (fun H locs hw => ?_)
  refine lv_if_eq (tgt := 32) hx hb dMO_unwrap_25 (by decide) (fun h25 => ?_) (fun h25 => absurd rfl h25)
  refine lv_aload_n hx hb dMO_unwrap_32 rfl (lv_at hl 1 rfl) ?_
  refine x_get S hw (C := RMO) (T := TMO) (N := 23) inMO 0 rfl rfl 3 (by decide) xh_2_148 (v := .ref mS) rfl dMO_unwrap_33 ?_
  refine lv_iload_n hx hb dMO_unwrap_36 rfl (lv_at hl 0 rfl) ?_
  refine x_iald S hw 2 0 rfl rfl (j := k0) (vp_in_nI (by omega) (by omega)) (nI_clamp (by omega)) dMO_unwrap_37 ?_
  refine lv_iconst (v := 3) hx hb dMO_unwrap_38 (by decide) ?_
  refine lv_icmp_ne (tgt := 46) hx hb dMO_unwrap_39 (by decide) (fun h39 => ?_) (fun h39 => absurd h39 hs)
  refine lv_aload_n hx hb dMO_unwrap_46 rfl (lv_at hl 1 rfl) ?_
  refine x_get S hw (C := RMO) (T := TMO) (N := 23) inMO 0 rfl rfl 5 (by decide) xh_2_150 (v := .ref mL) rfl dMO_unwrap_47 ?_
  refine lv_iload_n hx hb dMO_unwrap_50 rfl (lv_at hl 0 rfl) ?_
  refine x_zald S hw 3 1 rfl rfl (j := k0) (vp_in_nI (by omega) (by omega)) (nI_clamp (by omega)) dMO_unwrap_51 ?_
  refine lv_if_eq (tgt := 59) hx hb dMO_unwrap_52 (by decide) (fun h52 => absurd h52 hl9) (fun h52 => ?_)
  refine lv_ldc2 hx hb hown (hts _ xh_3_76) dMO_unwrap_55 ?_
  exact x_lret S hr hlk hw (by decide) (by decide) (⟨rfl, rfl⟩) dMO_unwrap_58

set_option maxHeartbeats 4000000 in
set_option maxRecDepth 100000 in
theorem ml_unw {p : Program} {l : Launch} {e : Env} {s : State} {m : MethodId} {args : Array Value} {below : List Frame} {meth : Method} {c : Code} {Q : State → Prop} {D : va_G} {A : Nat → Prop} {cI cZ cV : ClassId} {H0 : Heap} {R : Room} {cells slots : Nat} (hR : R = (xR 2 0 0)) (hC : cells = 0 ∧ slots = 0) (S : CallFix p m c cMO_unwrap 5 s args xAll "EscrowedVersionsModel") (g : Nat) (mP : Nat) (mS : Nat) (mK : Nat) (mL : Nat) (mT : Nat) (mZ : Nat) (mD : Nat) (mH : Nat) (mG : Nat) (mC : Nat) (m1 : Nat) (m2 : Nat) (m3 : Nat) (m4 : Nat) (mB : Nat) (mX : Nat) (mY : Nat) (cash : Int32) (cnt : Int32) (cuts : Int32) (lin : Int32) (siz : Int32) (ctr : Int32) (bb : Nat → Int32) (st : Nat → Int32) (su : Nat → Int32) (se : Nat → Int32) (c9 : Int32) (k0 : Nat)
    (kk : ∀ (ls : Array Slot) (H : Heap) (locs : List Loc), xW D (xT3 cI cZ cV) A H0 H locs [(g, .inr (6, [.ref mP, .int cash, .int cnt, .ref mS, .ref mK, .ref mL, .ref mT, .ref mZ, .ref mD, .ref mH, .ref mG, .ref mC, .int cuts, .int lin, .ref m1, .ref m2, .ref m3, .ref m4, .ref mB, .int siz, .int ctr, .ref mX, .ref mY])), (mB, .inl (cI, 16, .inl bb)), (mS, .inl (cI, 8, .inl st)), (mL, .inl (cZ, 8, .inl su)), (mK, .inl (cI, 8, .inl se))] s → lv_has ls 5 [(0, .ref g), (1, .int (nI k0)), (2, .int c9), (3, .int (nbF bb 3 4)), (4, .int (nI (3 + 4)))] → W p l e R s m args below meth c H locs cells slots Q (F0 m 108 ls [])) :
    ∀ (n k : Nat) (ls : Array Slot) (H : Heap) (locs : List Loc), k + n = 4 → xW D (xT3 cI cZ cV) A H0 H locs [(g, .inr (6, [.ref mP, .int cash, .int cnt, .ref mS, .ref mK, .ref mL, .ref mT, .ref mZ, .ref mD, .ref mH, .ref mG, .ref mC, .int cuts, .int lin, .ref m1, .ref m2, .ref m3, .ref m4, .ref mB, .int siz, .int ctr, .ref mX, .ref mY])), (mB, .inl (cI, 16, .inl bb)), (mS, .inl (cI, 8, .inl st)), (mL, .inl (cZ, 8, .inl su)), (mK, .inl (cI, 8, .inl se))] s → lv_has ls 5 [(0, .ref g), (1, .int (nI k0)), (2, .int c9), (3, .int (nbF bb 3 k)), (4, .int (nI (3 + k)))] → W p l e R s m args below meth c H locs cells slots Q (F0 m 82 ls []) := by
  obtain ⟨hx, hb, hml, hown, hts⟩ := id S
  subst hR
  obtain ⟨rfl, rfl⟩ := hC
  intro n
  induction n with
  | zero =>
    intro k ls H locs hk hw hl
    obtain rfl : 4 = k := by omega
    refine lv_iload hx hb dMO_unwrap_82 (lv_at hl 4 rfl) ?_
    refine lv_bipush (v := 7) hx hb dMO_unwrap_84 (by decide) ?_
    refine lv_icmp_ge (tgt := 108) hx hb dMO_unwrap_86 (by decide) (fun h86 => ?_) (fun h86 => absurd (by decide +kernel) h86)
    exact kk ls H locs hw (lv_sub hl [0, 1, 2, 3, 4] rfl)
  | succ n ih =>
    intro k ls H locs hk hw hl
    have hkN : k < 4 := by omega
    refine lv_iload hx hb dMO_unwrap_82 (lv_at hl 4 rfl) ?_
    refine lv_bipush (v := 7) hx hb dMO_unwrap_84 (by decide) ?_
    refine lv_icmp_ge (tgt := 108) hx hb dMO_unwrap_86 (by decide) (fun h86 => absurd h86 (nI_ge (a := 3 + k) (b := 7) (by omega) (by decide))) (fun h86 => ?_)
    refine lv_iload_n hx hb dMO_unwrap_89 rfl (lv_at hl 3 rfl) ?_
    refine lv_bipush (v := 8) hx hb dMO_unwrap_90 (by decide) ?_
    refine lv_ishl hx hb dMO_unwrap_92 ?_
    refine lv_aload_n hx hb dMO_unwrap_93 rfl (lv_at hl 0 rfl) ?_
    refine x_get S hw (C := RMO) (T := TMO) (N := 23) inMO 0 rfl rfl 18 (by decide) xh_2_163 (v := .ref mB) rfl dMO_unwrap_94 ?_
    refine lv_iload hx hb dMO_unwrap_97 (lv_at hl 4 rfl) ?_
    refine x_iald S hw 1 0 rfl rfl (j := (3 + k)) (vp_in_nI (by omega) (by omega)) (nI_clamp (by omega)) dMO_unwrap_99 ?_
    refine lv_ior hx hb dMO_unwrap_100 ?_
    refine lv_istore_n (lv' := [(3, .int ((nbF bb 3 k <<< ((8 : Int32) &&& 31)) ||| (bb (3 + k)))), (0, .ref g), (1, .int (nI k0)), (2, .int c9), (4, .int (nI (3 + k)))]) hx hb dMO_unwrap_101 rfl hl (by decide) rfl (fun ls hl => ?_)
    refine lv_iinc (v := nI ((3 + k) + 1)) (lv' := [(4, .int (nI ((3 + k) + 1))), (3, .int ((nbF bb 3 k <<< ((8 : Int32) &&& 31)) ||| (bb (3 + k)))), (0, .ref g), (1, .int (nI k0)), (2, .int c9)]) hx hb dMO_unwrap_102 hl (k := 4) rfl ((nI_succ _).symm) (by decide) rfl (fun ls hl => ?_)
    refine lv_goto (tgt := 82) hx hb dMO_unwrap_105 (by decide) ?_
    have e0 : nbF bb 3 (k + 1) = (nbF bb 3 k <<< ((8 : Int32) &&& 31)) ||| (bb (3 + k)) := by simp only [nbF]
    have e1 : nI (3 + (k + 1)) = nI (3 + k + 1) := by rfl
    refine ih (k + 1) ls H locs (by omega) ?_ ?_
    · exact hw
    · rw [e0, e1]; exact lv_sub hl [2, 3, 4, 1, 0] rfl

set_option maxHeartbeats 4000000 in
set_option maxRecDepth 100000 in
theorem m_unw_forg (l : Launch) (D : va_G) (cI cZ cV : ClassId) (g : Nat) (mP : Nat) (mS : Nat) (mK : Nat) (mL : Nat) (mT : Nat) (mZ : Nat) (mD : Nat) (mH : Nat) (mG : Nat) (mC : Nat) (m1 : Nat) (m2 : Nat) (m3 : Nat) (m4 : Nat) (mB : Nat) (mX : Nat) (mY : Nat) (cash : Int32) (cuts : Int32) (lin : Int32) (siz : Int32) (ctr : Int32) (n1 : Nat) (k0 : Nat) (bb : Nat → Int32) (st : Nat → Int32) (su : Nat → Int32) (se : Nat → Int32) (hz : siz = 9) (hb0 : bb 0 = nI k0) (hk : k0 < n1 ∧ n1 ≤ 8) (hs : ¬ st k0 = 3) (hl9 : su k0 = 0) (hg : ¬ 256 * bb 7 + bb 8 = fTag (se k0) (256 * bb 1 + bb 2) (nbF bb 3 4)) : XL l yMO_unwrap cMO_unwrap 5 (some .long) D (xT3 cI cZ cV) 2 0 0 [.ref g] [(g, .inr (6, [.ref mP, .int cash, .int (nI n1), .ref mS, .ref mK, .ref mL, .ref mT, .ref mZ, .ref mD, .ref mH, .ref mG, .ref mC, .int cuts, .int lin, .ref m1, .ref m2, .ref m3, .ref m4, .ref mB, .int siz, .int ctr, .ref mX, .ref mY])), (mB, .inl (cI, 16, .inl bb)), (mS, .inl (cI, 8, .inl st)), (mL, .inl (cZ, 8, .inl su)), (mK, .inl (cI, 8, .inl se))] (fun r u => r = -8 ∧ u = [(g, .inr (6, [.ref mP, .int cash, .int (nI n1), .ref mS, .ref mK, .ref mL, .ref mT, .ref mZ, .ref mD, .ref mH, .ref mG, .ref mC, .int cuts, .int lin, .ref m1, .ref m2, .ref m3, .ref m4, .ref mB, .int siz, .int ctr, .ref mX, .ref mY])), (mB, .inl (cI, 16, .inl bb)), (mS, .inl (cI, 8, .inl st)), (mL, .inl (cZ, 8, .inl su)), (mK, .inl (cI, 8, .inl se))]) := by
  intro sz
  refine x_ofW (Qc := fun A => va_Ql _ (xB D A) A) sz (by decide) (Nat.le_of_ble_eq_true rfl) ?_
  intro p e s m args below meth c A ls S hr hlk hnm hw hl
  obtain ⟨hx, hb, hml, hown, hts⟩ := id S
  have hl : lv_has ls 5 [(0, .ref g)] := hl
  refine lv_aload_n hx hb dMO_unwrap_0 rfl (lv_at hl 0 rfl) ?_
  refine x_get S hw (C := RMO) (T := TMO) (N := 23) inMO 0 rfl rfl 19 (by decide) xh_2_164 (v := .int siz) rfl dMO_unwrap_1 ?_
  refine lv_bipush (v := 9) hx hb dMO_unwrap_4 (by decide) ?_
  refine lv_icmp_eq (tgt := 13) hx hb dMO_unwrap_6 (by decide) (fun h6 => ?_) (fun h6 => absurd hz h6)
  refine lv_aload_n hx hb dMO_unwrap_13 rfl (lv_at hl 0 rfl) ?_
  refine x_get S hw (C := RMO) (T := TMO) (N := 23) inMO 0 rfl rfl 18 (by decide) xh_2_163 (v := .ref mB) rfl dMO_unwrap_14 ?_
  refine lv_iconst (v := 0) hx hb dMO_unwrap_17 (by decide) ?_
  refine x_iald S hw 1 0 rfl rfl (j := 0) (vp_in_nI (n := 0) (by decide) (by decide)) (nI_clamp (n := 0) (by decide)) dMO_unwrap_18 ?_
  refine x_topi (y := nI k0) (hb0) ?_
  refine lv_istore_n (lv' := [(1, .int (nI k0)), (0, .ref g)]) hx hb dMO_unwrap_19 rfl hl (by decide) rfl (fun ls hl => ?_)
  refine lv_aload_n hx hb dMO_unwrap_20 rfl (lv_at hl 1 rfl) ?_
  refine lv_iload_n hx hb dMO_unwrap_21 rfl (lv_at hl 0 rfl) ?_
  refine x_calliD (ws' := [(g, .inr (6, [.ref mP, .int cash, .int (nI n1), .ref mS, .ref mK, .ref mL, .ref mT, .ref mZ, .ref mD, .ref mH, .ref mG, .ref mC, .int cuts, .int lin, .ref m1, .ref m2, .ref m3, .ref m4, .ref mB, .int siz, .int ctr, .ref mX, .ref mY])), (mB, .inl (cI, 16, .inl bb)), (mS, .inl (cI, 8, .inl st)), (mL, .inl (cZ, 8, .inl su)), (mK, .inl (cI, 8, .inl se))]) hw [0] rfl rfl (x_runV (n := 1) (rest := []) (As := [.int (nI k0)]) S hw (m_none_n l D cI cZ cV g mP mS mK mL mT mZ mD mH mG mC m1 m2 m3 m4 mB mX mY cash cuts lin siz ctr n1 k0 hk _) xh_3_19 xh_3_16 xh_3_18 xsel_MO_none xh_1_6 (by decide +kernel) ⟨by decide, by decide⟩ [0] rfl rfl (ci := 6) (q0 := 0) rfl rfl rfl hl.1 rfl (Nat.le_of_ble_eq_true rfl) dMO_unwrap_22 ⟨by decide, by decide⟩) rfl rfl (fun H locs hw => ?_)
  refine lv_if_eq (tgt := 32) hx hb dMO_unwrap_25 (by decide) (fun h25 => ?_) (fun h25 => absurd rfl h25)
  refine lv_aload_n hx hb dMO_unwrap_32 rfl (lv_at hl 1 rfl) ?_
  refine x_get S hw (C := RMO) (T := TMO) (N := 23) inMO 0 rfl rfl 3 (by decide) xh_2_148 (v := .ref mS) rfl dMO_unwrap_33 ?_
  refine lv_iload_n hx hb dMO_unwrap_36 rfl (lv_at hl 0 rfl) ?_
  refine x_iald S hw 2 0 rfl rfl (j := k0) (vp_in_nI (by omega) (by omega)) (nI_clamp (by omega)) dMO_unwrap_37 ?_
  refine lv_iconst (v := 3) hx hb dMO_unwrap_38 (by decide) ?_
  refine lv_icmp_ne (tgt := 46) hx hb dMO_unwrap_39 (by decide) (fun h39 => ?_) (fun h39 => absurd h39 hs)
  refine lv_aload_n hx hb dMO_unwrap_46 rfl (lv_at hl 1 rfl) ?_
  refine x_get S hw (C := RMO) (T := TMO) (N := 23) inMO 0 rfl rfl 5 (by decide) xh_2_150 (v := .ref mL) rfl dMO_unwrap_47 ?_
  refine lv_iload_n hx hb dMO_unwrap_50 rfl (lv_at hl 0 rfl) ?_
  refine x_zald S hw 3 1 rfl rfl (j := k0) (vp_in_nI (by omega) (by omega)) (nI_clamp (by omega)) dMO_unwrap_51 ?_
  refine lv_if_eq (tgt := 59) hx hb dMO_unwrap_52 (by decide) (fun h52 => ?_) (fun h52 => absurd hl9 h52)
  refine lv_sipush (v := 256) hx hb dMO_unwrap_59 (by decide) ?_
  refine lv_aload_n hx hb dMO_unwrap_62 rfl (lv_at hl 1 rfl) ?_
  refine x_get S hw (C := RMO) (T := TMO) (N := 23) inMO 0 rfl rfl 18 (by decide) xh_2_163 (v := .ref mB) rfl dMO_unwrap_63 ?_
  refine lv_iconst (v := 1) hx hb dMO_unwrap_66 (by decide) ?_
  refine x_iald S hw 1 0 rfl rfl (j := 1) (vp_in_nI (n := 1) (by decide) (by decide)) (nI_clamp (n := 1) (by decide)) dMO_unwrap_67 ?_
  refine lv_imul hx hb dMO_unwrap_68 ?_
  refine lv_aload_n hx hb dMO_unwrap_69 rfl (lv_at hl 1 rfl) ?_
  refine x_get S hw (C := RMO) (T := TMO) (N := 23) inMO 0 rfl rfl 18 (by decide) xh_2_163 (v := .ref mB) rfl dMO_unwrap_70 ?_
  refine lv_iconst (v := 2) hx hb dMO_unwrap_73 (by decide) ?_
  refine x_iald S hw 1 0 rfl rfl (j := 2) (vp_in_nI (n := 2) (by decide) (by decide)) (nI_clamp (n := 2) (by decide)) dMO_unwrap_74 ?_
  refine lv_iadd hx hb dMO_unwrap_75 ?_
  refine lv_istore_n (lv' := [(2, .int ((256 * (bb 1)) + (bb 2))), (1, .int (nI k0)), (0, .ref g)]) hx hb dMO_unwrap_76 rfl hl (by decide) rfl (fun ls hl => ?_)
  refine lv_iconst (v := 0) hx hb dMO_unwrap_77 (by decide) ?_
  refine lv_istore_n (lv' := [(3, .int 0), (2, .int ((256 * (bb 1)) + (bb 2))), (1, .int (nI k0)), (0, .ref g)]) hx hb dMO_unwrap_78 rfl hl (by decide) rfl (fun ls hl => ?_)
  refine lv_iconst (v := 3) hx hb dMO_unwrap_79 (by decide) ?_
  refine lv_istore (lv' := [(4, .int 3), (3, .int 0), (2, .int ((256 * (bb 1)) + (bb 2))), (1, .int (nI k0)), (0, .ref g)]) hx hb dMO_unwrap_80 hl (by decide) rfl (fun ls hl => ?_)
  refine ml_unw rfl ⟨rfl, rfl⟩ S g mP mS mK mL mT mZ mD mH mG mC m1 m2 m3 m4 mB mX mY cash (nI n1) cuts lin siz ctr bb st su se (256 * bb 1 + bb 2) k0 (fun ls H locs hw hl => ?_) 4 0 ls _ _ (Nat.zero_add _) hw (lv_sub hl [4, 3, 2, 1, 0] rfl)
  refine lv_sipush (v := 256) hx hb dMO_unwrap_108 (by decide) ?_
  refine lv_aload_n hx hb dMO_unwrap_111 rfl (lv_at hl 0 rfl) ?_
  refine x_get S hw (C := RMO) (T := TMO) (N := 23) inMO 0 rfl rfl 18 (by decide) xh_2_163 (v := .ref mB) rfl dMO_unwrap_112 ?_
  refine lv_bipush (v := 7) hx hb dMO_unwrap_115 (by decide) ?_
  refine x_iald S hw 1 0 rfl rfl (j := 7) (vp_in_nI (n := 7) (by decide) (by decide)) (nI_clamp (n := 7) (by decide)) dMO_unwrap_117 ?_
  refine lv_imul hx hb dMO_unwrap_118 ?_
  refine lv_aload_n hx hb dMO_unwrap_119 rfl (lv_at hl 0 rfl) ?_
  refine x_get S hw (C := RMO) (T := TMO) (N := 23) inMO 0 rfl rfl 18 (by decide) xh_2_163 (v := .ref mB) rfl dMO_unwrap_120 ?_
  refine lv_bipush (v := 8) hx hb dMO_unwrap_123 (by decide) ?_
  refine x_iald S hw 1 0 rfl rfl (j := 8) (vp_in_nI (n := 8) (by decide) (by decide)) (nI_clamp (n := 8) (by decide)) dMO_unwrap_125 ?_
  refine lv_iadd hx hb dMO_unwrap_126 ?_
  refine lv_aload_n hx hb dMO_unwrap_127 rfl (lv_at hl 0 rfl) ?_
  refine x_get S hw (C := RMO) (T := TMO) (N := 23) inMO 0 rfl rfl 4 (by decide) xh_2_149 (v := .ref mK) rfl dMO_unwrap_128 ?_
  refine lv_iload_n hx hb dMO_unwrap_131 rfl (lv_at hl 1 rfl) ?_
  refine x_iald S hw 4 0 rfl rfl (j := k0) (vp_in_nI (by omega) (by omega)) (nI_clamp (by omega)) dMO_unwrap_132 ?_
  refine lv_iload_n hx hb dMO_unwrap_133 rfl (lv_at hl 2 rfl) ?_
  refine lv_iload_n hx hb dMO_unwrap_134 rfl (lv_at hl 3 rfl) ?_
  refine x_calliD (ws' := [(g, .inr (6, [.ref mP, .int cash, .int (nI n1), .ref mS, .ref mK, .ref mL, .ref mT, .ref mZ, .ref mD, .ref mH, .ref mG, .ref mC, .int cuts, .int lin, .ref m1, .ref m2, .ref m3, .ref m4, .ref mB, .int siz, .int ctr, .ref mX, .ref mY])), (mB, .inl (cI, 16, .inl bb)), (mS, .inl (cI, 8, .inl st)), (mL, .inl (cZ, 8, .inl su)), (mK, .inl (cI, 8, .inl se))]) hw [] rfl rfl (x_runS (n := 3) (rest := [.int ((256 * (bb 7)) + (bb 8))]) (As := [.int (se k0), .int (256 * bb 1 + bb 2), .int (nbF bb 3 4)]) S hw (m_mark l D cI cZ cV (se k0) (256 * bb 1 + bb 2) (nbF bb 3 4) _) xh_3_67 xh_3_65 xh_3_66 xh_1_6 (by decide +kernel) ⟨by decide, by decide⟩ [] rfl rfl rfl hl.1 rfl (Nat.le_of_ble_eq_true rfl) dMO_unwrap_135 ⟨by decide, by decide⟩) rfl rfl (fun H locs hw => ?_)
  refine lv_icmp_eq (tgt := 145) hx hb dMO_unwrap_138 (by decide) (fun h138 => absurd h138 hg) (fun h138 => ?_)
  refine lv_ldc2 hx hb hown (hts _ xh_3_77) dMO_unwrap_141 ?_
  exact x_lret S hr hlk hw (by decide) (by decide) (⟨rfl, rfl⟩) dMO_unwrap_144

set_option maxHeartbeats 4000000 in
set_option maxRecDepth 100000 in
theorem m_unw_ok (l : Launch) (D : va_G) (cI cZ cV : ClassId) (g : Nat) (mP : Nat) (mS : Nat) (mK : Nat) (mL : Nat) (mT : Nat) (mZ : Nat) (mD : Nat) (mH : Nat) (mG : Nat) (mC : Nat) (m1 : Nat) (m2 : Nat) (m3 : Nat) (m4 : Nat) (mB : Nat) (mX : Nat) (mY : Nat) (cash : Int32) (cuts : Int32) (lin : Int32) (siz : Int32) (ctr : Int32) (n1 : Nat) (k0 : Nat) (bb : Nat → Int32) (st : Nat → Int32) (su : Nat → Int32) (se : Nat → Int32) (hz : siz = 9) (hb0 : bb 0 = nI k0) (hk : k0 < n1 ∧ n1 ≤ 8) (hs : ¬ st k0 = 3) (hl9 : su k0 = 0) (hg : 256 * bb 7 + bb 8 = fTag (se k0) (256 * bb 1 + bb 2) (nbF bb 3 4)) : XL l yMO_unwrap cMO_unwrap 5 (some .long) D (xT3 cI cZ cV) 2 0 0 [.ref g] [(g, .inr (6, [.ref mP, .int cash, .int (nI n1), .ref mS, .ref mK, .ref mL, .ref mT, .ref mZ, .ref mD, .ref mH, .ref mG, .ref mC, .int cuts, .int lin, .ref m1, .ref m2, .ref m3, .ref m4, .ref mB, .int siz, .int ctr, .ref mX, .ref mY])), (mB, .inl (cI, 16, .inl bb)), (mS, .inl (cI, 8, .inl st)), (mL, .inl (cZ, 8, .inl su)), (mK, .inl (cI, 8, .inl se))] (fun r u => r = (nbF bb 3 4 ^^^ fPad (se k0) (256 * bb 1 + bb 2)).toInt64 &&& 4294967295 ∧ u = [(g, .inr (6, [.ref mP, .int cash, .int (nI n1), .ref mS, .ref mK, .ref mL, .ref mT, .ref mZ, .ref mD, .ref mH, .ref mG, .ref mC, .int cuts, .int lin, .ref m1, .ref m2, .ref m3, .ref m4, .ref mB, .int siz, .int ctr, .ref mX, .ref mY])), (mB, .inl (cI, 16, .inl bb)), (mS, .inl (cI, 8, .inl st)), (mL, .inl (cZ, 8, .inl su)), (mK, .inl (cI, 8, .inl se))]) := by
  intro sz
  refine x_ofW (Qc := fun A => va_Ql _ (xB D A) A) sz (by decide) (Nat.le_of_ble_eq_true rfl) ?_
  intro p e s m args below meth c A ls S hr hlk hnm hw hl
  obtain ⟨hx, hb, hml, hown, hts⟩ := id S
  have hl : lv_has ls 5 [(0, .ref g)] := hl
  refine lv_aload_n hx hb dMO_unwrap_0 rfl (lv_at hl 0 rfl) ?_
  refine x_get S hw (C := RMO) (T := TMO) (N := 23) inMO 0 rfl rfl 19 (by decide) xh_2_164 (v := .int siz) rfl dMO_unwrap_1 ?_
  refine lv_bipush (v := 9) hx hb dMO_unwrap_4 (by decide) ?_
  refine lv_icmp_eq (tgt := 13) hx hb dMO_unwrap_6 (by decide) (fun h6 => ?_) (fun h6 => absurd hz h6)
  refine lv_aload_n hx hb dMO_unwrap_13 rfl (lv_at hl 0 rfl) ?_
  refine x_get S hw (C := RMO) (T := TMO) (N := 23) inMO 0 rfl rfl 18 (by decide) xh_2_163 (v := .ref mB) rfl dMO_unwrap_14 ?_
  refine lv_iconst (v := 0) hx hb dMO_unwrap_17 (by decide) ?_
  refine x_iald S hw 1 0 rfl rfl (j := 0) (vp_in_nI (n := 0) (by decide) (by decide)) (nI_clamp (n := 0) (by decide)) dMO_unwrap_18 ?_
  refine x_topi (y := nI k0) (hb0) ?_
  refine lv_istore_n (lv' := [(1, .int (nI k0)), (0, .ref g)]) hx hb dMO_unwrap_19 rfl hl (by decide) rfl (fun ls hl => ?_)
  refine lv_aload_n hx hb dMO_unwrap_20 rfl (lv_at hl 1 rfl) ?_
  refine lv_iload_n hx hb dMO_unwrap_21 rfl (lv_at hl 0 rfl) ?_
  refine x_calliD (ws' := [(g, .inr (6, [.ref mP, .int cash, .int (nI n1), .ref mS, .ref mK, .ref mL, .ref mT, .ref mZ, .ref mD, .ref mH, .ref mG, .ref mC, .int cuts, .int lin, .ref m1, .ref m2, .ref m3, .ref m4, .ref mB, .int siz, .int ctr, .ref mX, .ref mY])), (mB, .inl (cI, 16, .inl bb)), (mS, .inl (cI, 8, .inl st)), (mL, .inl (cZ, 8, .inl su)), (mK, .inl (cI, 8, .inl se))]) hw [0] rfl rfl (x_runV (n := 1) (rest := []) (As := [.int (nI k0)]) S hw (m_none_n l D cI cZ cV g mP mS mK mL mT mZ mD mH mG mC m1 m2 m3 m4 mB mX mY cash cuts lin siz ctr n1 k0 hk _) xh_3_19 xh_3_16 xh_3_18 xsel_MO_none xh_1_6 (by decide +kernel) ⟨by decide, by decide⟩ [0] rfl rfl (ci := 6) (q0 := 0) rfl rfl rfl hl.1 rfl (Nat.le_of_ble_eq_true rfl) dMO_unwrap_22 ⟨by decide, by decide⟩) rfl rfl (fun H locs hw => ?_)
  refine lv_if_eq (tgt := 32) hx hb dMO_unwrap_25 (by decide) (fun h25 => ?_) (fun h25 => absurd rfl h25)
  refine lv_aload_n hx hb dMO_unwrap_32 rfl (lv_at hl 1 rfl) ?_
  refine x_get S hw (C := RMO) (T := TMO) (N := 23) inMO 0 rfl rfl 3 (by decide) xh_2_148 (v := .ref mS) rfl dMO_unwrap_33 ?_
  refine lv_iload_n hx hb dMO_unwrap_36 rfl (lv_at hl 0 rfl) ?_
  refine x_iald S hw 2 0 rfl rfl (j := k0) (vp_in_nI (by omega) (by omega)) (nI_clamp (by omega)) dMO_unwrap_37 ?_
  refine lv_iconst (v := 3) hx hb dMO_unwrap_38 (by decide) ?_
  refine lv_icmp_ne (tgt := 46) hx hb dMO_unwrap_39 (by decide) (fun h39 => ?_) (fun h39 => absurd h39 hs)
  refine lv_aload_n hx hb dMO_unwrap_46 rfl (lv_at hl 1 rfl) ?_
  refine x_get S hw (C := RMO) (T := TMO) (N := 23) inMO 0 rfl rfl 5 (by decide) xh_2_150 (v := .ref mL) rfl dMO_unwrap_47 ?_
  refine lv_iload_n hx hb dMO_unwrap_50 rfl (lv_at hl 0 rfl) ?_
  refine x_zald S hw 3 1 rfl rfl (j := k0) (vp_in_nI (by omega) (by omega)) (nI_clamp (by omega)) dMO_unwrap_51 ?_
  refine lv_if_eq (tgt := 59) hx hb dMO_unwrap_52 (by decide) (fun h52 => ?_) (fun h52 => absurd hl9 h52)
  refine lv_sipush (v := 256) hx hb dMO_unwrap_59 (by decide) ?_
  refine lv_aload_n hx hb dMO_unwrap_62 rfl (lv_at hl 1 rfl) ?_
  refine x_get S hw (C := RMO) (T := TMO) (N := 23) inMO 0 rfl rfl 18 (by decide) xh_2_163 (v := .ref mB) rfl dMO_unwrap_63 ?_
  refine lv_iconst (v := 1) hx hb dMO_unwrap_66 (by decide) ?_
  refine x_iald S hw 1 0 rfl rfl (j := 1) (vp_in_nI (n := 1) (by decide) (by decide)) (nI_clamp (n := 1) (by decide)) dMO_unwrap_67 ?_
  refine lv_imul hx hb dMO_unwrap_68 ?_
  refine lv_aload_n hx hb dMO_unwrap_69 rfl (lv_at hl 1 rfl) ?_
  refine x_get S hw (C := RMO) (T := TMO) (N := 23) inMO 0 rfl rfl 18 (by decide) xh_2_163 (v := .ref mB) rfl dMO_unwrap_70 ?_
  refine lv_iconst (v := 2) hx hb dMO_unwrap_73 (by decide) ?_
  refine x_iald S hw 1 0 rfl rfl (j := 2) (vp_in_nI (n := 2) (by decide) (by decide)) (nI_clamp (n := 2) (by decide)) dMO_unwrap_74 ?_
  refine lv_iadd hx hb dMO_unwrap_75 ?_
  refine lv_istore_n (lv' := [(2, .int ((256 * (bb 1)) + (bb 2))), (1, .int (nI k0)), (0, .ref g)]) hx hb dMO_unwrap_76 rfl hl (by decide) rfl (fun ls hl => ?_)
  refine lv_iconst (v := 0) hx hb dMO_unwrap_77 (by decide) ?_
  refine lv_istore_n (lv' := [(3, .int 0), (2, .int ((256 * (bb 1)) + (bb 2))), (1, .int (nI k0)), (0, .ref g)]) hx hb dMO_unwrap_78 rfl hl (by decide) rfl (fun ls hl => ?_)
  refine lv_iconst (v := 3) hx hb dMO_unwrap_79 (by decide) ?_
  refine lv_istore (lv' := [(4, .int 3), (3, .int 0), (2, .int ((256 * (bb 1)) + (bb 2))), (1, .int (nI k0)), (0, .ref g)]) hx hb dMO_unwrap_80 hl (by decide) rfl (fun ls hl => ?_)
  refine ml_unw rfl ⟨rfl, rfl⟩ S g mP mS mK mL mT mZ mD mH mG mC m1 m2 m3 m4 mB mX mY cash (nI n1) cuts lin siz ctr bb st su se (256 * bb 1 + bb 2) k0 (fun ls H locs hw hl => ?_) 4 0 ls _ _ (Nat.zero_add _) hw (lv_sub hl [4, 3, 2, 1, 0] rfl)
  refine lv_sipush (v := 256) hx hb dMO_unwrap_108 (by decide) ?_
  refine lv_aload_n hx hb dMO_unwrap_111 rfl (lv_at hl 0 rfl) ?_
  refine x_get S hw (C := RMO) (T := TMO) (N := 23) inMO 0 rfl rfl 18 (by decide) xh_2_163 (v := .ref mB) rfl dMO_unwrap_112 ?_
  refine lv_bipush (v := 7) hx hb dMO_unwrap_115 (by decide) ?_
  refine x_iald S hw 1 0 rfl rfl (j := 7) (vp_in_nI (n := 7) (by decide) (by decide)) (nI_clamp (n := 7) (by decide)) dMO_unwrap_117 ?_
  refine lv_imul hx hb dMO_unwrap_118 ?_
  refine lv_aload_n hx hb dMO_unwrap_119 rfl (lv_at hl 0 rfl) ?_
  refine x_get S hw (C := RMO) (T := TMO) (N := 23) inMO 0 rfl rfl 18 (by decide) xh_2_163 (v := .ref mB) rfl dMO_unwrap_120 ?_
  refine lv_bipush (v := 8) hx hb dMO_unwrap_123 (by decide) ?_
  refine x_iald S hw 1 0 rfl rfl (j := 8) (vp_in_nI (n := 8) (by decide) (by decide)) (nI_clamp (n := 8) (by decide)) dMO_unwrap_125 ?_
  refine lv_iadd hx hb dMO_unwrap_126 ?_
  refine lv_aload_n hx hb dMO_unwrap_127 rfl (lv_at hl 0 rfl) ?_
  refine x_get S hw (C := RMO) (T := TMO) (N := 23) inMO 0 rfl rfl 4 (by decide) xh_2_149 (v := .ref mK) rfl dMO_unwrap_128 ?_
  refine lv_iload_n hx hb dMO_unwrap_131 rfl (lv_at hl 1 rfl) ?_
  refine x_iald S hw 4 0 rfl rfl (j := k0) (vp_in_nI (by omega) (by omega)) (nI_clamp (by omega)) dMO_unwrap_132 ?_
  refine lv_iload_n hx hb dMO_unwrap_133 rfl (lv_at hl 2 rfl) ?_
  refine lv_iload_n hx hb dMO_unwrap_134 rfl (lv_at hl 3 rfl) ?_
  refine x_calliD (ws' := [(g, .inr (6, [.ref mP, .int cash, .int (nI n1), .ref mS, .ref mK, .ref mL, .ref mT, .ref mZ, .ref mD, .ref mH, .ref mG, .ref mC, .int cuts, .int lin, .ref m1, .ref m2, .ref m3, .ref m4, .ref mB, .int siz, .int ctr, .ref mX, .ref mY])), (mB, .inl (cI, 16, .inl bb)), (mS, .inl (cI, 8, .inl st)), (mL, .inl (cZ, 8, .inl su)), (mK, .inl (cI, 8, .inl se))]) hw [] rfl rfl (x_runS (n := 3) (rest := [.int ((256 * (bb 7)) + (bb 8))]) (As := [.int (se k0), .int (256 * bb 1 + bb 2), .int (nbF bb 3 4)]) S hw (m_mark l D cI cZ cV (se k0) (256 * bb 1 + bb 2) (nbF bb 3 4) _) xh_3_67 xh_3_65 xh_3_66 xh_1_6 (by decide +kernel) ⟨by decide, by decide⟩ [] rfl rfl rfl hl.1 rfl (Nat.le_of_ble_eq_true rfl) dMO_unwrap_135 ⟨by decide, by decide⟩) rfl rfl (fun H locs hw => ?_)
  refine lv_icmp_eq (tgt := 145) hx hb dMO_unwrap_138 (by decide) (fun h138 => ?_) (fun h138 => absurd hg h138)
  refine lv_iload_n hx hb dMO_unwrap_145 rfl (lv_at hl 3 rfl) ?_
  refine lv_aload_n hx hb dMO_unwrap_146 rfl (lv_at hl 0 rfl) ?_
  refine x_get S hw (C := RMO) (T := TMO) (N := 23) inMO 0 rfl rfl 4 (by decide) xh_2_149 (v := .ref mK) rfl dMO_unwrap_147 ?_
  refine lv_iload_n hx hb dMO_unwrap_150 rfl (lv_at hl 1 rfl) ?_
  refine x_iald S hw 4 0 rfl rfl (j := k0) (vp_in_nI (by omega) (by omega)) (nI_clamp (by omega)) dMO_unwrap_151 ?_
  refine lv_iload_n hx hb dMO_unwrap_152 rfl (lv_at hl 2 rfl) ?_
  refine x_calliD (ws' := [(g, .inr (6, [.ref mP, .int cash, .int (nI n1), .ref mS, .ref mK, .ref mL, .ref mT, .ref mZ, .ref mD, .ref mH, .ref mG, .ref mC, .int cuts, .int lin, .ref m1, .ref m2, .ref m3, .ref m4, .ref mB, .int siz, .int ctr, .ref mX, .ref mY])), (mB, .inl (cI, 16, .inl bb)), (mS, .inl (cI, 8, .inl st)), (mL, .inl (cZ, 8, .inl su)), (mK, .inl (cI, 8, .inl se))]) hw [] rfl rfl (x_runS (n := 2) (rest := [.int (nbF bb 3 4)]) (As := [.int (se k0), .int (256 * bb 1 + bb 2)]) S hw (m_mask l D cI cZ cV (se k0) (256 * bb 1 + bb 2) _) xh_3_64 xh_3_62 xh_3_63 xh_1_6 (by decide +kernel) ⟨by decide, by decide⟩ [] rfl rfl rfl hl.1 rfl (Nat.le_of_ble_eq_true rfl) dMO_unwrap_153 ⟨by decide, by decide⟩) rfl rfl (fun H locs hw => ?_)
  refine lv_ixor hx hb dMO_unwrap_156 ?_
  refine lv_i2l (v := (nbF bb 3 4 ^^^ (fPad (se k0) (256 * bb 1 + bb 2))).toInt64) hx hb dMO_unwrap_157 rfl ?_
  refine lv_ldc2 hx hb hown (hts _ xh_3_78) dMO_unwrap_158 ?_
  refine lv_land hx hb dMO_unwrap_161 ?_
  exact x_lret S hr hlk hw (by decide) (by decide) (⟨rfl, rfl⟩) dMO_unwrap_162

set_option maxHeartbeats 4000000 in
set_option maxRecDepth 100000 in
theorem m_set_no (l : Launch) (D : va_G) (cI cZ cV : ClassId) (g : Nat) (mP : Nat) (mS : Nat) (mK : Nat) (mL : Nat) (mT : Nat) (mZ : Nat) (mD : Nat) (mH : Nat) (mG : Nat) (mC : Nat) (m1 : Nat) (m2 : Nat) (m3 : Nat) (m4 : Nat) (mB : Nat) (mX : Nat) (mY : Nat) (cash : Int32) (cnt : Int32) (cuts : Int32) (lin : Int32) (siz : Int32) (ctr : Int32) (k : Int32) (b : Int32) (hv : k < 0 ∨ siz < k ∨ b < 0 ∨ 255 < b ∨ k = 16) : XI l yMO_set cMO_set 3 (some .boolean) D (xT3 cI cZ cV) 0 0 0 [.ref g, .int k, .int b] [(g, .inr (6, [.ref mP, .int cash, .int cnt, .ref mS, .ref mK, .ref mL, .ref mT, .ref mZ, .ref mD, .ref mH, .ref mG, .ref mC, .int cuts, .int lin, .ref m1, .ref m2, .ref m3, .ref m4, .ref mB, .int siz, .int ctr, .ref mX, .ref mY]))] (fun r u => r = 0 ∧ u = [(g, .inr (6, [.ref mP, .int cash, .int cnt, .ref mS, .ref mK, .ref mL, .ref mT, .ref mZ, .ref mD, .ref mH, .ref mG, .ref mC, .int cuts, .int lin, .ref m1, .ref m2, .ref m3, .ref m4, .ref mB, .int siz, .int ctr, .ref mX, .ref mY]))]) := by
  intro sz
  refine x_ofW (Qc := fun A => va_Qi _ (xB D A) A) sz (by decide) (Nat.le_of_ble_eq_true rfl) ?_
  intro p e s m args below meth c A ls S hr hlk hnm hw hl
  obtain ⟨hx, hb, hml, hown, hts⟩ := id S
  have hl : lv_has ls 3 [(0, .ref g), (1, .int k), (2, .int b)] := hl
  refine lv_iload_n hx hb dMO_set_0 rfl (lv_at hl 1 rfl) ?_
  refine lv_if_lt (tgt := 29) hx hb dMO_set_1 (by decide) (fun h1 => ?_) (fun h1 => ?_)
  · skip
    refine lv_iconst (v := 0) hx hb dMO_set_29 (by decide) ?_
    exact x_zret S hr hlk hw (by decide) (by decide) rfl (⟨rfl, rfl⟩) dMO_set_30
  refine lv_iload_n hx hb dMO_set_4 rfl (lv_at hl 1 rfl) ?_
  refine lv_aload_n hx hb dMO_set_5 rfl (lv_at hl 0 rfl) ?_
  refine x_get S hw (C := RMO) (T := TMO) (N := 23) inMO 0 rfl rfl 19 (by decide) xh_2_164 (v := .int siz) rfl dMO_set_6 ?_
  refine lv_icmp_gt (tgt := 29) hx hb dMO_set_9 (by decide) (fun h9 => ?_) (fun h9 => ?_)
  · skip
    refine lv_iconst (v := 0) hx hb dMO_set_29 (by decide) ?_
    exact x_zret S hr hlk hw (by decide) (by decide) rfl (⟨rfl, rfl⟩) dMO_set_30
  refine lv_iload_n hx hb dMO_set_12 rfl (lv_at hl 2 rfl) ?_
  refine lv_if_lt (tgt := 29) hx hb dMO_set_13 (by decide) (fun h13 => ?_) (fun h13 => ?_)
  · skip
    refine lv_iconst (v := 0) hx hb dMO_set_29 (by decide) ?_
    exact x_zret S hr hlk hw (by decide) (by decide) rfl (⟨rfl, rfl⟩) dMO_set_30
  refine lv_iload_n hx hb dMO_set_16 rfl (lv_at hl 2 rfl) ?_
  refine lv_sipush (v := 255) hx hb dMO_set_17 (by decide) ?_
  refine lv_icmp_gt (tgt := 29) hx hb dMO_set_20 (by decide) (fun h20 => ?_) (fun h20 => ?_)
  · skip
    refine lv_iconst (v := 0) hx hb dMO_set_29 (by decide) ?_
    exact x_zret S hr hlk hw (by decide) (by decide) rfl (⟨rfl, rfl⟩) dMO_set_30
  refine lv_iload_n hx hb dMO_set_23 rfl (lv_at hl 1 rfl) ?_
  refine lv_bipush (v := 16) hx hb dMO_set_24 (by decide) ?_
  refine lv_icmp_ne (tgt := 31) hx hb dMO_set_26 (by decide) (fun h26 => ?_) (fun h26 => ?_)
  · skip
    exact False.elim (by rcases hv with h | h | h | h | h <;> contradiction)
  refine lv_iconst (v := 0) hx hb dMO_set_29 (by decide) ?_
  exact x_zret S hr hlk hw (by decide) (by decide) rfl (⟨rfl, rfl⟩) dMO_set_30

set_option maxHeartbeats 4000000 in
set_option maxRecDepth 100000 in
theorem m_set_in (l : Launch) (D : va_G) (cI cZ cV : ClassId) (g : Nat) (mP : Nat) (mS : Nat) (mK : Nat) (mL : Nat) (mT : Nat) (mZ : Nat) (mD : Nat) (mH : Nat) (mG : Nat) (mC : Nat) (m1 : Nat) (m2 : Nat) (m3 : Nat) (m4 : Nat) (mB : Nat) (mX : Nat) (mY : Nat) (cash : Int32) (cnt : Int32) (cuts : Int32) (lin : Int32) (ctr : Int32) (bb : Nat → Int32) (z0 : Nat) (j : Nat) (b : Int32) (hj : j < z0) (hz : z0 ≤ 16) (hby : ¬ fIsB b = 0) : XI l yMO_set cMO_set 3 (some .boolean) D (xT3 cI cZ cV) 0 0 0 [.ref g, .int (nI j), .int b] [(g, .inr (6, [.ref mP, .int cash, .int cnt, .ref mS, .ref mK, .ref mL, .ref mT, .ref mZ, .ref mD, .ref mH, .ref mG, .ref mC, .int cuts, .int lin, .ref m1, .ref m2, .ref m3, .ref m4, .ref mB, .int (nI z0), .int ctr, .ref mX, .ref mY])), (mB, .inl (cI, 16, .inl bb))] (fun r u => r = 1 ∧ u = [(g, .inr (6, [.ref mP, .int cash, .int cnt, .ref mS, .ref mK, .ref mL, .ref mT, .ref mZ, .ref mD, .ref mH, .ref mG, .ref mC, .int cuts, .int lin, .ref m1, .ref m2, .ref m3, .ref m4, .ref mB, .int (nI z0), .int ctr, .ref mX, .ref mY])), (mB, .inl (cI, 16, .inl (upd bb j b)))]) := by
  intro sz
  refine x_ofW (Qc := fun A => va_Qi _ (xB D A) A) sz (by decide) (Nat.le_of_ble_eq_true rfl) ?_
  intro p e s m args below meth c A ls S hr hlk hnm hw hl
  obtain ⟨hx, hb, hml, hown, hts⟩ := id S
  have hl : lv_has ls 3 [(0, .ref g), (1, .int (nI j)), (2, .int b)] := hl
  refine lv_iload_n hx hb dMO_set_0 rfl (lv_at hl 1 rfl) ?_
  refine lv_if_lt (tgt := 29) hx hb dMO_set_1 (by decide) (fun h1 => absurd h1 (nI_pos (by omega))) (fun h1 => ?_)
  refine lv_iload_n hx hb dMO_set_4 rfl (lv_at hl 1 rfl) ?_
  refine lv_aload_n hx hb dMO_set_5 rfl (lv_at hl 0 rfl) ?_
  refine x_get S hw (C := RMO) (T := TMO) (N := 23) inMO 0 rfl rfl 19 (by decide) xh_2_164 (v := .int (nI z0)) rfl dMO_set_6 ?_
  refine lv_icmp_gt (tgt := 29) hx hb dMO_set_9 (by decide) (fun h9 => absurd h9 (nI_nlt (by omega) (by omega))) (fun h9 => ?_)
  refine lv_iload_n hx hb dMO_set_12 rfl (lv_at hl 2 rfl) ?_
  refine lv_if_lt (tgt := 29) hx hb dMO_set_13 (by decide) (fun h13 => absurd h13 (isB_of hby).1) (fun h13 => ?_)
  refine lv_iload_n hx hb dMO_set_16 rfl (lv_at hl 2 rfl) ?_
  refine lv_sipush (v := 255) hx hb dMO_set_17 (by decide) ?_
  refine lv_icmp_gt (tgt := 29) hx hb dMO_set_20 (by decide) (fun h20 => absurd h20 (isB_of hby).2) (fun h20 => ?_)
  refine lv_iload_n hx hb dMO_set_23 rfl (lv_at hl 1 rfl) ?_
  refine lv_bipush (v := 16) hx hb dMO_set_24 (by decide) ?_
  refine lv_icmp_ne (tgt := 31) hx hb dMO_set_26 (by decide) (fun h26 => ?_) (fun h26 => absurd h26 (fun e => by have := (nI_eq (a := j) (b := 16) (by omega) (by decide)).mp e; omega))
  refine lv_aload_n hx hb dMO_set_31 rfl (lv_at hl 0 rfl) ?_
  refine x_get S hw (C := RMO) (T := TMO) (N := 23) inMO 0 rfl rfl 18 (by decide) xh_2_163 (v := .ref mB) rfl dMO_set_32 ?_
  refine lv_iload_n hx hb dMO_set_35 rfl (lv_at hl 1 rfl) ?_
  refine lv_iload_n hx hb dMO_set_36 rfl (lv_at hl 2 rfl) ?_
  refine x_iast S hw 1 0 rfl rfl (j := j) (vp_in_nI (by omega) (by omega)) (nI_clamp (by omega)) (ws' := [(g, .inr (6, [.ref mP, .int cash, .int cnt, .ref mS, .ref mK, .ref mL, .ref mT, .ref mZ, .ref mD, .ref mH, .ref mG, .ref mC, .int cuts, .int lin, .ref m1, .ref m2, .ref m3, .ref m4, .ref mB, .int (nI z0), .int ctr, .ref mX, .ref mY])), (mB, .inl (cI, 16, .inl (upd bb j b)))]) rfl dMO_set_37 (fun H locs hw => ?_)
  refine lv_aload_n hx hb dMO_set_38 rfl (lv_at hl 0 rfl) ?_
  refine lv_iload_n hx hb dMO_set_39 rfl (lv_at hl 1 rfl) ?_
  refine lv_aload_n hx hb dMO_set_40 rfl (lv_at hl 0 rfl) ?_
  refine x_get S hw (C := RMO) (T := TMO) (N := 23) inMO 0 rfl rfl 19 (by decide) xh_2_164 (v := .int (nI z0)) rfl dMO_set_41 ?_
  refine lv_icmp_ne (tgt := 56) hx hb dMO_set_44 (by decide) (fun h44 => ?_) (fun h44 => absurd h44 (fun e => by have := (nI_eq (by omega) (by omega)).mp e; omega))
  refine lv_aload_n hx hb dMO_set_56 rfl (lv_at hl 0 rfl) ?_
  refine x_get S hw (C := RMO) (T := TMO) (N := 23) inMO 0 rfl rfl 19 (by decide) xh_2_164 (v := .int (nI z0)) rfl dMO_set_57 ?_
  refine x_put S hw (C := RMO) (T := TMO) (N := 23) inMO tyMO tyMO_ok nmMO 0 rfl rfl 19 (by decide) xh_2_164 rfl (v := .int (nI z0)) rfl rfl (Nat.le_of_ble_eq_true rfl) (ws' := [(g, .inr (6, [.ref mP, .int cash, .int cnt, .ref mS, .ref mK, .ref mL, .ref mT, .ref mZ, .ref mD, .ref mH, .ref mG, .ref mC, .int cuts, .int lin, .ref m1, .ref m2, .ref m3, .ref m4, .ref mB, .int (nI z0), .int ctr, .ref mX, .ref mY])), (mB, .inl (cI, 16, .inl (upd bb j b)))]) rfl dMO_set_60 (fun H locs hw => ?_)
  refine lv_iconst (v := 1) hx hb dMO_set_63 (by decide) ?_
  exact x_zret S hr hlk hw (by decide) (by decide) rfl (⟨rfl, rfl⟩) dMO_set_64

set_option maxHeartbeats 4000000 in
set_option maxRecDepth 100000 in
theorem m_set_end (l : Launch) (D : va_G) (cI cZ cV : ClassId) (g : Nat) (mP : Nat) (mS : Nat) (mK : Nat) (mL : Nat) (mT : Nat) (mZ : Nat) (mD : Nat) (mH : Nat) (mG : Nat) (mC : Nat) (m1 : Nat) (m2 : Nat) (m3 : Nat) (m4 : Nat) (mB : Nat) (mX : Nat) (mY : Nat) (cash : Int32) (cnt : Int32) (cuts : Int32) (lin : Int32) (ctr : Int32) (bb : Nat → Int32) (z0 : Nat) (b : Int32) (hz : z0 < 16) (hby : ¬ fIsB b = 0) : XI l yMO_set cMO_set 3 (some .boolean) D (xT3 cI cZ cV) 0 0 0 [.ref g, .int (nI z0), .int b] [(g, .inr (6, [.ref mP, .int cash, .int cnt, .ref mS, .ref mK, .ref mL, .ref mT, .ref mZ, .ref mD, .ref mH, .ref mG, .ref mC, .int cuts, .int lin, .ref m1, .ref m2, .ref m3, .ref m4, .ref mB, .int (nI z0), .int ctr, .ref mX, .ref mY])), (mB, .inl (cI, 16, .inl bb))] (fun r u => r = 1 ∧ u = [(g, .inr (6, [.ref mP, .int cash, .int cnt, .ref mS, .ref mK, .ref mL, .ref mT, .ref mZ, .ref mD, .ref mH, .ref mG, .ref mC, .int cuts, .int lin, .ref m1, .ref m2, .ref m3, .ref m4, .ref mB, .int (nI (z0 + 1)), .int ctr, .ref mX, .ref mY])), (mB, .inl (cI, 16, .inl (upd bb z0 b)))]) := by
  intro sz
  refine x_ofW (Qc := fun A => va_Qi _ (xB D A) A) sz (by decide) (Nat.le_of_ble_eq_true rfl) ?_
  intro p e s m args below meth c A ls S hr hlk hnm hw hl
  obtain ⟨hx, hb, hml, hown, hts⟩ := id S
  have hl : lv_has ls 3 [(0, .ref g), (1, .int (nI z0)), (2, .int b)] := hl
  refine lv_iload_n hx hb dMO_set_0 rfl (lv_at hl 1 rfl) ?_
  refine lv_if_lt (tgt := 29) hx hb dMO_set_1 (by decide) (fun h1 => absurd h1 (nI_pos (by omega))) (fun h1 => ?_)
  refine lv_iload_n hx hb dMO_set_4 rfl (lv_at hl 1 rfl) ?_
  refine lv_aload_n hx hb dMO_set_5 rfl (lv_at hl 0 rfl) ?_
  refine x_get S hw (C := RMO) (T := TMO) (N := 23) inMO 0 rfl rfl 19 (by decide) xh_2_164 (v := .int (nI z0)) rfl dMO_set_6 ?_
  refine lv_icmp_gt (tgt := 29) hx hb dMO_set_9 (by decide) (fun h9 => absurd h9 (nI_nlt (by omega) (by omega))) (fun h9 => ?_)
  refine lv_iload_n hx hb dMO_set_12 rfl (lv_at hl 2 rfl) ?_
  refine lv_if_lt (tgt := 29) hx hb dMO_set_13 (by decide) (fun h13 => absurd h13 (isB_of hby).1) (fun h13 => ?_)
  refine lv_iload_n hx hb dMO_set_16 rfl (lv_at hl 2 rfl) ?_
  refine lv_sipush (v := 255) hx hb dMO_set_17 (by decide) ?_
  refine lv_icmp_gt (tgt := 29) hx hb dMO_set_20 (by decide) (fun h20 => absurd h20 (isB_of hby).2) (fun h20 => ?_)
  refine lv_iload_n hx hb dMO_set_23 rfl (lv_at hl 1 rfl) ?_
  refine lv_bipush (v := 16) hx hb dMO_set_24 (by decide) ?_
  refine lv_icmp_ne (tgt := 31) hx hb dMO_set_26 (by decide) (fun h26 => ?_) (fun h26 => absurd h26 (fun e => by have := (nI_eq (a := z0) (b := 16) (by omega) (by decide)).mp e; omega))
  refine lv_aload_n hx hb dMO_set_31 rfl (lv_at hl 0 rfl) ?_
  refine x_get S hw (C := RMO) (T := TMO) (N := 23) inMO 0 rfl rfl 18 (by decide) xh_2_163 (v := .ref mB) rfl dMO_set_32 ?_
  refine lv_iload_n hx hb dMO_set_35 rfl (lv_at hl 1 rfl) ?_
  refine lv_iload_n hx hb dMO_set_36 rfl (lv_at hl 2 rfl) ?_
  refine x_iast S hw 1 0 rfl rfl (j := z0) (vp_in_nI (by omega) (by omega)) (nI_clamp (by omega)) (ws' := [(g, .inr (6, [.ref mP, .int cash, .int cnt, .ref mS, .ref mK, .ref mL, .ref mT, .ref mZ, .ref mD, .ref mH, .ref mG, .ref mC, .int cuts, .int lin, .ref m1, .ref m2, .ref m3, .ref m4, .ref mB, .int (nI z0), .int ctr, .ref mX, .ref mY])), (mB, .inl (cI, 16, .inl (upd bb z0 b)))]) rfl dMO_set_37 (fun H locs hw => ?_)
  refine lv_aload_n hx hb dMO_set_38 rfl (lv_at hl 0 rfl) ?_
  refine lv_iload_n hx hb dMO_set_39 rfl (lv_at hl 1 rfl) ?_
  refine lv_aload_n hx hb dMO_set_40 rfl (lv_at hl 0 rfl) ?_
  refine x_get S hw (C := RMO) (T := TMO) (N := 23) inMO 0 rfl rfl 19 (by decide) xh_2_164 (v := .int (nI z0)) rfl dMO_set_41 ?_
  refine lv_icmp_ne (tgt := 56) hx hb dMO_set_44 (by decide) (fun h44 => absurd rfl h44) (fun h44 => ?_)
  refine lv_aload_n hx hb dMO_set_47 rfl (lv_at hl 0 rfl) ?_
  refine x_get S hw (C := RMO) (T := TMO) (N := 23) inMO 0 rfl rfl 19 (by decide) xh_2_164 (v := .int (nI z0)) rfl dMO_set_48 ?_
  refine lv_iconst (v := 1) hx hb dMO_set_51 (by decide) ?_
  refine lv_iadd hx hb dMO_set_52 ?_
  refine x_topi (y := nI (z0 + 1)) ((nI_succ _).symm) ?_
  refine lv_goto (tgt := 60) hx hb dMO_set_53 (by decide) ?_
  refine x_put S hw (C := RMO) (T := TMO) (N := 23) inMO tyMO tyMO_ok nmMO 0 rfl rfl 19 (by decide) xh_2_164 rfl (v := .int (nI (z0 + 1))) rfl rfl (Nat.le_of_ble_eq_true rfl) (ws' := [(g, .inr (6, [.ref mP, .int cash, .int cnt, .ref mS, .ref mK, .ref mL, .ref mT, .ref mZ, .ref mD, .ref mH, .ref mG, .ref mC, .int cuts, .int lin, .ref m1, .ref m2, .ref m3, .ref m4, .ref mB, .int (nI (z0 + 1)), .int ctr, .ref mX, .ref mY])), (mB, .inl (cI, 16, .inl (upd bb z0 b)))]) rfl dMO_set_60 (fun H locs hw => ?_)
  refine lv_iconst (v := 1) hx hb dMO_set_63 (by decide) ?_
  exact x_zret S hr hlk hw (by decide) (by decide) rfl (⟨rfl, rfl⟩) dMO_set_64

set_option maxHeartbeats 4000000 in
set_option maxRecDepth 100000 in
theorem m_tri_no (l : Launch) (D : va_G) (cI cZ cV : ClassId) (g : Nat) (mP : Nat) (mS : Nat) (mK : Nat) (mL : Nat) (mT : Nat) (mZ : Nat) (mD : Nat) (mH : Nat) (mG : Nat) (mC : Nat) (m1 : Nat) (m2 : Nat) (m3 : Nat) (m4 : Nat) (mB : Nat) (mX : Nat) (mY : Nat) (cash : Int32) (cnt : Int32) (cuts : Int32) (lin : Int32) (siz : Int32) (ctr : Int32) (k : Int32) (hv : k < 0 ∨ siz < k) : XI l yMO_trim cMO_trim 2 (some .boolean) D (xT3 cI cZ cV) 0 0 0 [.ref g, .int k] [(g, .inr (6, [.ref mP, .int cash, .int cnt, .ref mS, .ref mK, .ref mL, .ref mT, .ref mZ, .ref mD, .ref mH, .ref mG, .ref mC, .int cuts, .int lin, .ref m1, .ref m2, .ref m3, .ref m4, .ref mB, .int siz, .int ctr, .ref mX, .ref mY]))] (fun r u => r = 0 ∧ u = [(g, .inr (6, [.ref mP, .int cash, .int cnt, .ref mS, .ref mK, .ref mL, .ref mT, .ref mZ, .ref mD, .ref mH, .ref mG, .ref mC, .int cuts, .int lin, .ref m1, .ref m2, .ref m3, .ref m4, .ref mB, .int siz, .int ctr, .ref mX, .ref mY]))]) := by
  intro sz
  refine x_ofW (Qc := fun A => va_Qi _ (xB D A) A) sz (by decide) (Nat.le_of_ble_eq_true rfl) ?_
  intro p e s m args below meth c A ls S hr hlk hnm hw hl
  obtain ⟨hx, hb, hml, hown, hts⟩ := id S
  have hl : lv_has ls 2 [(0, .ref g), (1, .int k)] := hl
  refine lv_iload_n hx hb dMO_trim_0 rfl (lv_at hl 1 rfl) ?_
  refine lv_if_lt (tgt := 12) hx hb dMO_trim_1 (by decide) (fun h1 => ?_) (fun h1 => ?_)
  · skip
    refine lv_iconst (v := 0) hx hb dMO_trim_12 (by decide) ?_
    exact x_zret S hr hlk hw (by decide) (by decide) rfl (⟨rfl, rfl⟩) dMO_trim_13
  refine lv_iload_n hx hb dMO_trim_4 rfl (lv_at hl 1 rfl) ?_
  refine lv_aload_n hx hb dMO_trim_5 rfl (lv_at hl 0 rfl) ?_
  refine x_get S hw (C := RMO) (T := TMO) (N := 23) inMO 0 rfl rfl 19 (by decide) xh_2_164 (v := .int siz) rfl dMO_trim_6 ?_
  refine lv_icmp_le (tgt := 14) hx hb dMO_trim_9 (by decide) (fun h9 => ?_) (fun h9 => ?_)
  · skip
    exact False.elim (by rcases hv with h | h; exact h1 h; exact Int32.not_lt.mpr h9 h)
  refine lv_iconst (v := 0) hx hb dMO_trim_12 (by decide) ?_
  exact x_zret S hr hlk hw (by decide) (by decide) rfl (⟨rfl, rfl⟩) dMO_trim_13

set_option maxHeartbeats 4000000 in
set_option maxRecDepth 100000 in
theorem m_tri_ok (l : Launch) (D : va_G) (cI cZ cV : ClassId) (g : Nat) (mP : Nat) (mS : Nat) (mK : Nat) (mL : Nat) (mT : Nat) (mZ : Nat) (mD : Nat) (mH : Nat) (mG : Nat) (mC : Nat) (m1 : Nat) (m2 : Nat) (m3 : Nat) (m4 : Nat) (mB : Nat) (mX : Nat) (mY : Nat) (cash : Int32) (cnt : Int32) (cuts : Int32) (lin : Int32) (ctr : Int32) (z0 : Nat) (j : Nat) (hj : j ≤ z0 ∧ z0 ≤ 16) : XI l yMO_trim cMO_trim 2 (some .boolean) D (xT3 cI cZ cV) 0 0 0 [.ref g, .int (nI j)] [(g, .inr (6, [.ref mP, .int cash, .int cnt, .ref mS, .ref mK, .ref mL, .ref mT, .ref mZ, .ref mD, .ref mH, .ref mG, .ref mC, .int cuts, .int lin, .ref m1, .ref m2, .ref m3, .ref m4, .ref mB, .int (nI z0), .int ctr, .ref mX, .ref mY]))] (fun r u => r = 1 ∧ u = [(g, .inr (6, [.ref mP, .int cash, .int cnt, .ref mS, .ref mK, .ref mL, .ref mT, .ref mZ, .ref mD, .ref mH, .ref mG, .ref mC, .int cuts, .int lin, .ref m1, .ref m2, .ref m3, .ref m4, .ref mB, .int (nI j), .int ctr, .ref mX, .ref mY]))]) := by
  intro sz
  refine x_ofW (Qc := fun A => va_Qi _ (xB D A) A) sz (by decide) (Nat.le_of_ble_eq_true rfl) ?_
  intro p e s m args below meth c A ls S hr hlk hnm hw hl
  obtain ⟨hx, hb, hml, hown, hts⟩ := id S
  have hl : lv_has ls 2 [(0, .ref g), (1, .int (nI j))] := hl
  refine lv_iload_n hx hb dMO_trim_0 rfl (lv_at hl 1 rfl) ?_
  refine lv_if_lt (tgt := 12) hx hb dMO_trim_1 (by decide) (fun h1 => absurd h1 (nI_pos (by omega))) (fun h1 => ?_)
  refine lv_iload_n hx hb dMO_trim_4 rfl (lv_at hl 1 rfl) ?_
  refine lv_aload_n hx hb dMO_trim_5 rfl (lv_at hl 0 rfl) ?_
  refine x_get S hw (C := RMO) (T := TMO) (N := 23) inMO 0 rfl rfl 19 (by decide) xh_2_164 (v := .int (nI z0)) rfl dMO_trim_6 ?_
  refine lv_icmp_le (tgt := 14) hx hb dMO_trim_9 (by decide) (fun h9 => ?_) (fun h9 => absurd (nI_le (by omega) (by omega)) h9)
  refine lv_aload_n hx hb dMO_trim_14 rfl (lv_at hl 0 rfl) ?_
  refine lv_iload_n hx hb dMO_trim_15 rfl (lv_at hl 1 rfl) ?_
  refine x_put S hw (C := RMO) (T := TMO) (N := 23) inMO tyMO tyMO_ok nmMO 0 rfl rfl 19 (by decide) xh_2_164 rfl (v := .int (nI j)) rfl rfl (Nat.le_of_ble_eq_true rfl) (ws' := [(g, .inr (6, [.ref mP, .int cash, .int cnt, .ref mS, .ref mK, .ref mL, .ref mT, .ref mZ, .ref mD, .ref mH, .ref mG, .ref mC, .int cuts, .int lin, .ref m1, .ref m2, .ref m3, .ref m4, .ref mB, .int (nI j), .int ctr, .ref mX, .ref mY]))]) rfl dMO_trim_16 (fun H locs hw => ?_)
  refine lv_iconst (v := 1) hx hb dMO_trim_19 (by decide) ?_
  exact x_zret S hr hlk hw (by decide) (by decide) rfl (⟨rfl, rfl⟩) dMO_trim_20

set_option maxHeartbeats 4000000 in
set_option maxRecDepth 100000 in
theorem m_byt_no (l : Launch) (D : va_G) (cI cZ cV : ClassId) (g : Nat) (mP : Nat) (mS : Nat) (mK : Nat) (mL : Nat) (mT : Nat) (mZ : Nat) (mD : Nat) (mH : Nat) (mG : Nat) (mC : Nat) (m1 : Nat) (m2 : Nat) (m3 : Nat) (m4 : Nat) (mB : Nat) (mX : Nat) (mY : Nat) (cash : Int32) (cnt : Int32) (cuts : Int32) (lin : Int32) (siz : Int32) (ctr : Int32) (k : Int32) (hv : k < 0 ∨ siz ≤ k) : XI l yMO_byteAt cMO_byteAt 2 (some .int) D (xT3 cI cZ cV) 0 0 0 [.ref g, .int k] [(g, .inr (6, [.ref mP, .int cash, .int cnt, .ref mS, .ref mK, .ref mL, .ref mT, .ref mZ, .ref mD, .ref mH, .ref mG, .ref mC, .int cuts, .int lin, .ref m1, .ref m2, .ref m3, .ref m4, .ref mB, .int siz, .int ctr, .ref mX, .ref mY]))] (fun r u => r = -1 ∧ u = [(g, .inr (6, [.ref mP, .int cash, .int cnt, .ref mS, .ref mK, .ref mL, .ref mT, .ref mZ, .ref mD, .ref mH, .ref mG, .ref mC, .int cuts, .int lin, .ref m1, .ref m2, .ref m3, .ref m4, .ref mB, .int siz, .int ctr, .ref mX, .ref mY]))]) := by
  intro sz
  refine x_ofW (Qc := fun A => va_Qi _ (xB D A) A) sz (by decide) (Nat.le_of_ble_eq_true rfl) ?_
  intro p e s m args below meth c A ls S hr hlk hnm hw hl
  obtain ⟨hx, hb, hml, hown, hts⟩ := id S
  have hl : lv_has ls 2 [(0, .ref g), (1, .int k)] := hl
  refine lv_iload_n hx hb dMO_byteAt_0 rfl (lv_at hl 1 rfl) ?_
  refine lv_if_lt (tgt := 12) hx hb dMO_byteAt_1 (by decide) (fun h1 => ?_) (fun h1 => ?_)
  · skip
    refine lv_iconst (v := (-1)) hx hb dMO_byteAt_12 (by decide) ?_
    refine lv_goto (tgt := 22) hx hb dMO_byteAt_13 (by decide) ?_
    exact x_iret S hr hlk hw (by decide) (by decide) (⟨rfl, rfl⟩) dMO_byteAt_22
  refine lv_iload_n hx hb dMO_byteAt_4 rfl (lv_at hl 1 rfl) ?_
  refine lv_aload_n hx hb dMO_byteAt_5 rfl (lv_at hl 0 rfl) ?_
  refine x_get S hw (C := RMO) (T := TMO) (N := 23) inMO 0 rfl rfl 19 (by decide) xh_2_164 (v := .int siz) rfl dMO_byteAt_6 ?_
  refine lv_icmp_lt (tgt := 16) hx hb dMO_byteAt_9 (by decide) (fun h9 => ?_) (fun h9 => ?_)
  · skip
    exact False.elim (by rcases hv with h | h; exact h1 h; exact Int32.not_lt.mpr h h9)
  refine lv_iconst (v := (-1)) hx hb dMO_byteAt_12 (by decide) ?_
  refine lv_goto (tgt := 22) hx hb dMO_byteAt_13 (by decide) ?_
  exact x_iret S hr hlk hw (by decide) (by decide) (⟨rfl, rfl⟩) dMO_byteAt_22

set_option maxHeartbeats 4000000 in
set_option maxRecDepth 100000 in
theorem m_byt_ok (l : Launch) (D : va_G) (cI cZ cV : ClassId) (g : Nat) (mP : Nat) (mS : Nat) (mK : Nat) (mL : Nat) (mT : Nat) (mZ : Nat) (mD : Nat) (mH : Nat) (mG : Nat) (mC : Nat) (m1 : Nat) (m2 : Nat) (m3 : Nat) (m4 : Nat) (mB : Nat) (mX : Nat) (mY : Nat) (cash : Int32) (cnt : Int32) (cuts : Int32) (lin : Int32) (ctr : Int32) (bb : Nat → Int32) (z0 : Nat) (j : Nat) (hj : j < z0 ∧ z0 ≤ 16) : XI l yMO_byteAt cMO_byteAt 2 (some .int) D (xT3 cI cZ cV) 0 0 0 [.ref g, .int (nI j)] [(g, .inr (6, [.ref mP, .int cash, .int cnt, .ref mS, .ref mK, .ref mL, .ref mT, .ref mZ, .ref mD, .ref mH, .ref mG, .ref mC, .int cuts, .int lin, .ref m1, .ref m2, .ref m3, .ref m4, .ref mB, .int (nI z0), .int ctr, .ref mX, .ref mY])), (mB, .inl (cI, 16, .inl bb))] (fun r u => r = bb j ∧ u = [(g, .inr (6, [.ref mP, .int cash, .int cnt, .ref mS, .ref mK, .ref mL, .ref mT, .ref mZ, .ref mD, .ref mH, .ref mG, .ref mC, .int cuts, .int lin, .ref m1, .ref m2, .ref m3, .ref m4, .ref mB, .int (nI z0), .int ctr, .ref mX, .ref mY])), (mB, .inl (cI, 16, .inl bb))]) := by
  intro sz
  refine x_ofW (Qc := fun A => va_Qi _ (xB D A) A) sz (by decide) (Nat.le_of_ble_eq_true rfl) ?_
  intro p e s m args below meth c A ls S hr hlk hnm hw hl
  obtain ⟨hx, hb, hml, hown, hts⟩ := id S
  have hl : lv_has ls 2 [(0, .ref g), (1, .int (nI j))] := hl
  refine lv_iload_n hx hb dMO_byteAt_0 rfl (lv_at hl 1 rfl) ?_
  refine lv_if_lt (tgt := 12) hx hb dMO_byteAt_1 (by decide) (fun h1 => absurd h1 (nI_pos (by omega))) (fun h1 => ?_)
  refine lv_iload_n hx hb dMO_byteAt_4 rfl (lv_at hl 1 rfl) ?_
  refine lv_aload_n hx hb dMO_byteAt_5 rfl (lv_at hl 0 rfl) ?_
  refine x_get S hw (C := RMO) (T := TMO) (N := 23) inMO 0 rfl rfl 19 (by decide) xh_2_164 (v := .int (nI z0)) rfl dMO_byteAt_6 ?_
  refine lv_icmp_lt (tgt := 16) hx hb dMO_byteAt_9 (by decide) (fun h9 => ?_) (fun h9 => absurd (nI_lt (by omega) (by omega)) h9)
  refine lv_aload_n hx hb dMO_byteAt_16 rfl (lv_at hl 0 rfl) ?_
  refine x_get S hw (C := RMO) (T := TMO) (N := 23) inMO 0 rfl rfl 18 (by decide) xh_2_163 (v := .ref mB) rfl dMO_byteAt_17 ?_
  refine lv_iload_n hx hb dMO_byteAt_20 rfl (lv_at hl 1 rfl) ?_
  refine x_iald S hw 1 0 rfl rfl (j := j) (vp_in_nI (by omega) (by omega)) (nI_clamp (by omega)) dMO_byteAt_21 ?_
  exact x_iret S hr hlk hw (by decide) (by decide) (⟨rfl, rfl⟩) dMO_byteAt_22

set_option maxHeartbeats 4000000 in
set_option maxRecDepth 100000 in
theorem m_length (l : Launch) (D : va_G) (cI cZ cV : ClassId) (g : Nat) (mP : Nat) (mS : Nat) (mK : Nat) (mL : Nat) (mT : Nat) (mZ : Nat) (mD : Nat) (mH : Nat) (mG : Nat) (mC : Nat) (m1 : Nat) (m2 : Nat) (m3 : Nat) (m4 : Nat) (mB : Nat) (mX : Nat) (mY : Nat) (cash : Int32) (cnt : Int32) (cuts : Int32) (lin : Int32) (siz : Int32) (ctr : Int32) : XI l yMO_length cMO_length 1 (some .int) D (xT3 cI cZ cV) 0 0 0 [.ref g] [(g, .inr (6, [.ref mP, .int cash, .int cnt, .ref mS, .ref mK, .ref mL, .ref mT, .ref mZ, .ref mD, .ref mH, .ref mG, .ref mC, .int cuts, .int lin, .ref m1, .ref m2, .ref m3, .ref m4, .ref mB, .int siz, .int ctr, .ref mX, .ref mY]))] (fun r u => r = siz ∧ u = [(g, .inr (6, [.ref mP, .int cash, .int cnt, .ref mS, .ref mK, .ref mL, .ref mT, .ref mZ, .ref mD, .ref mH, .ref mG, .ref mC, .int cuts, .int lin, .ref m1, .ref m2, .ref m3, .ref m4, .ref mB, .int siz, .int ctr, .ref mX, .ref mY]))]) := by
  intro sz
  refine x_ofW (Qc := fun A => va_Qi _ (xB D A) A) sz (by decide) (Nat.le_of_ble_eq_true rfl) ?_
  intro p e s m args below meth c A ls S hr hlk hnm hw hl
  obtain ⟨hx, hb, hml, hown, hts⟩ := id S
  have hl : lv_has ls 1 [(0, .ref g)] := hl
  refine lv_aload_n hx hb dMO_length_0 rfl (lv_at hl 0 rfl) ?_
  refine x_get S hw (C := RMO) (T := TMO) (N := 23) inMO 0 rfl rfl 19 (by decide) xh_2_164 (v := .int siz) rfl dMO_length_1 ?_
  exact x_iret S hr hlk hw (by decide) (by decide) (⟨rfl, rfl⟩) dMO_length_4

set_option maxHeartbeats 4000000 in
set_option maxRecDepth 100000 in
theorem m_ver_no (l : Launch) (D : va_G) (cI cZ cV : ClassId) (g : Nat) (mP : Nat) (mS : Nat) (mK : Nat) (mL : Nat) (mT : Nat) (mZ : Nat) (mD : Nat) (mH : Nat) (mG : Nat) (mC : Nat) (m1 : Nat) (m2 : Nat) (m3 : Nat) (m4 : Nat) (mB : Nat) (mX : Nat) (mY : Nat) (cash : Int32) (cnt : Int32) (cuts : Int32) (lin : Int32) (siz : Int32) (ctr : Int32) (v : Int32) (t : Int32) (hv : v < 0 ∨ cnt ≤ v) : XI l yMO_version cMO_version 5 (some .int) D (xT3 cI cZ cV) 1 0 0 [.ref g, .int v, .int t] [(g, .inr (6, [.ref mP, .int cash, .int cnt, .ref mS, .ref mK, .ref mL, .ref mT, .ref mZ, .ref mD, .ref mH, .ref mG, .ref mC, .int cuts, .int lin, .ref m1, .ref m2, .ref m3, .ref m4, .ref mB, .int siz, .int ctr, .ref mX, .ref mY]))] (fun r u => r = -1 ∧ u = [(g, .inr (6, [.ref mP, .int cash, .int cnt, .ref mS, .ref mK, .ref mL, .ref mT, .ref mZ, .ref mD, .ref mH, .ref mG, .ref mC, .int cuts, .int lin, .ref m1, .ref m2, .ref m3, .ref m4, .ref mB, .int siz, .int ctr, .ref mX, .ref mY]))]) := by
  intro sz
  refine x_ofW (Qc := fun A => va_Qi _ (xB D A) A) sz (by decide) (Nat.le_of_ble_eq_true rfl) ?_
  intro p e s m args below meth c A ls S hr hlk hnm hw hl
  obtain ⟨hx, hb, hml, hown, hts⟩ := id S
  have hl : lv_has ls 5 [(0, .ref g), (1, .int v), (2, .int t)] := hl
  refine lv_aload_n hx hb dMO_version_0 rfl (lv_at hl 0 rfl) ?_
  refine lv_iload_n hx hb dMO_version_1 rfl (lv_at hl 1 rfl) ?_
  refine x_calliD (ws' := [(g, .inr (6, [.ref mP, .int cash, .int cnt, .ref mS, .ref mK, .ref mL, .ref mT, .ref mZ, .ref mD, .ref mH, .ref mG, .ref mC, .int cuts, .int lin, .ref m1, .ref m2, .ref m3, .ref m4, .ref mB, .int siz, .int ctr, .ref mX, .ref mY]))]) hw [0] rfl rfl (x_runV (n := 1) (rest := []) (As := [.int v]) S hw (m_none_y l D cI cZ cV g mP mS mK mL mT mZ mD mH mG mC m1 m2 m3 m4 mB mX mY cash cnt cuts lin siz ctr v hv _) xh_3_19 xh_3_16 xh_3_18 xsel_MO_none xh_1_6 (by decide +kernel) ⟨by decide, by decide⟩ [0] rfl rfl (ci := 6) (q0 := 0) rfl rfl rfl hl.1 rfl (Nat.le_of_ble_eq_true rfl) dMO_version_2 ⟨by decide, by decide⟩) rfl rfl (fun H locs hw => ?_)
  refine lv_if_ne (tgt := 17) hx hb dMO_version_5 (by decide) (fun h5 => ?_) (fun h5 => absurd h5 (by decide))
  refine lv_iconst (v := (-1)) hx hb dMO_version_17 (by decide) ?_
  exact x_iret S hr hlk hw (by decide) (by decide) (⟨rfl, rfl⟩) dMO_version_18

set_option maxHeartbeats 4000000 in
set_option maxRecDepth 100000 in
theorem m_ver_out (l : Launch) (D : va_G) (cI cZ cV : ClassId) (g : Nat) (mP : Nat) (mS : Nat) (mK : Nat) (mL : Nat) (mT : Nat) (mZ : Nat) (mD : Nat) (mH : Nat) (mG : Nat) (mC : Nat) (m1 : Nat) (m2 : Nat) (m3 : Nat) (m4 : Nat) (mB : Nat) (mX : Nat) (mY : Nat) (cash : Int32) (cuts : Int32) (lin : Int32) (siz : Int32) (ctr : Int32) (n1 : Nat) (k0 : Nat) (t : Int32) (hk : k0 < n1 ∧ n1 ≤ 8) (hv : t < 0 ∨ 3 < t) : XI l yMO_version cMO_version 5 (some .int) D (xT3 cI cZ cV) 1 0 0 [.ref g, .int (nI k0), .int t] [(g, .inr (6, [.ref mP, .int cash, .int (nI n1), .ref mS, .ref mK, .ref mL, .ref mT, .ref mZ, .ref mD, .ref mH, .ref mG, .ref mC, .int cuts, .int lin, .ref m1, .ref m2, .ref m3, .ref m4, .ref mB, .int siz, .int ctr, .ref mX, .ref mY]))] (fun r u => r = -1 ∧ u = [(g, .inr (6, [.ref mP, .int cash, .int (nI n1), .ref mS, .ref mK, .ref mL, .ref mT, .ref mZ, .ref mD, .ref mH, .ref mG, .ref mC, .int cuts, .int lin, .ref m1, .ref m2, .ref m3, .ref m4, .ref mB, .int siz, .int ctr, .ref mX, .ref mY]))]) := by
  intro sz
  refine x_ofW (Qc := fun A => va_Qi _ (xB D A) A) sz (by decide) (Nat.le_of_ble_eq_true rfl) ?_
  intro p e s m args below meth c A ls S hr hlk hnm hw hl
  obtain ⟨hx, hb, hml, hown, hts⟩ := id S
  have hl : lv_has ls 5 [(0, .ref g), (1, .int (nI k0)), (2, .int t)] := hl
  refine lv_aload_n hx hb dMO_version_0 rfl (lv_at hl 0 rfl) ?_
  refine lv_iload_n hx hb dMO_version_1 rfl (lv_at hl 1 rfl) ?_
  refine x_calliD (ws' := [(g, .inr (6, [.ref mP, .int cash, .int (nI n1), .ref mS, .ref mK, .ref mL, .ref mT, .ref mZ, .ref mD, .ref mH, .ref mG, .ref mC, .int cuts, .int lin, .ref m1, .ref m2, .ref m3, .ref m4, .ref mB, .int siz, .int ctr, .ref mX, .ref mY]))]) hw [0] rfl rfl (x_runV (n := 1) (rest := []) (As := [.int (nI k0)]) S hw (m_none_n l D cI cZ cV g mP mS mK mL mT mZ mD mH mG mC m1 m2 m3 m4 mB mX mY cash cuts lin siz ctr n1 k0 hk _) xh_3_19 xh_3_16 xh_3_18 xsel_MO_none xh_1_6 (by decide +kernel) ⟨by decide, by decide⟩ [0] rfl rfl (ci := 6) (q0 := 0) rfl rfl rfl hl.1 rfl (Nat.le_of_ble_eq_true rfl) dMO_version_2 ⟨by decide, by decide⟩) rfl rfl (fun H locs hw => ?_)
  refine lv_if_ne (tgt := 17) hx hb dMO_version_5 (by decide) (fun h5 => absurd rfl h5) (fun h5 => ?_)
  refine lv_iload_n hx hb dMO_version_8 rfl (lv_at hl 2 rfl) ?_
  refine lv_if_lt (tgt := 17) hx hb dMO_version_9 (by decide) (fun h9 => ?_) (fun h9 => ?_)
  · skip
    refine lv_iconst (v := (-1)) hx hb dMO_version_17 (by decide) ?_
    exact x_iret S hr hlk hw (by decide) (by decide) (⟨rfl, rfl⟩) dMO_version_18
  refine lv_iload_n hx hb dMO_version_12 rfl (lv_at hl 2 rfl) ?_
  refine lv_iconst (v := 3) hx hb dMO_version_13 (by decide) ?_
  refine lv_icmp_le (tgt := 19) hx hb dMO_version_14 (by decide) (fun h14 => ?_) (fun h14 => ?_)
  · skip
    exact False.elim (by rcases hv with h | h; exact h9 h; exact Int32.not_lt.mpr h14 h)
  refine lv_iconst (v := (-1)) hx hb dMO_version_17 (by decide) ?_
  exact x_iret S hr hlk hw (by decide) (by decide) (⟨rfl, rfl⟩) dMO_version_18

set_option maxHeartbeats 4000000 in
set_option maxRecDepth 100000 in
theorem ml_ver_0 {p : Program} {l : Launch} {e : Env} {s : State} {m : MethodId} {args : Array Value} {below : List Frame} {meth : Method} {c : Code} {Q : State → Prop} {D : va_G} {A : Nat → Prop} {cI cZ cV : ClassId} {H0 : Heap} {R : Room} {cells slots : Nat} (hR : R = (xR 1 0 0)) (hC : cells = 0 ∧ slots = 0) (S : CallFix p m c cMO_version 5 s args xAll "EscrowedVersionsModel") (g : Nat) (mP : Nat) (mS : Nat) (mK : Nat) (mL : Nat) (mT : Nat) (mZ : Nat) (mD : Nat) (mH : Nat) (mG : Nat) (mC : Nat) (m1 : Nat) (m2 : Nat) (m3 : Nat) (m4 : Nat) (mB : Nat) (mX : Nat) (mY : Nat) (cash : Int32) (cnt : Int32) (cuts : Int32) (lin : Int32) (siz : Int32) (ctr : Int32) (st : Nat → Int32) (gg : Nat → Int32) (k0 : Nat) (hk0 : k0 < 8)
    (kk : ∀ (ls : Array Slot) (H : Heap) (locs : List Loc), xW D (xT3 cI cZ cV) A H0 H locs [(g, .inr (6, [.ref mP, .int cash, .int cnt, .ref mS, .ref mK, .ref mL, .ref mT, .ref mZ, .ref mD, .ref mH, .ref mG, .ref mC, .int cuts, .int lin, .ref m1, .ref m2, .ref m3, .ref m4, .ref mB, .int siz, .int ctr, .ref mX, .ref mY])), (mS, .inl (cI, 8, .inl st)), (mG, .inl (cZ, 72, .inl gg))] s → lv_has ls 5 [(0, .ref g), (1, .int (nI k0)), (2, .int 0), (3, .int (nI (gsF gg k0 8))), (4, .int (nI (8 + 1)))] → W p l e R s m args below meth c H locs cells slots Q (F0 m 63 ls [])) :
    ∀ (n k : Nat) (ls : Array Slot) (H : Heap) (locs : List Loc), k + n = 8 → xW D (xT3 cI cZ cV) A H0 H locs [(g, .inr (6, [.ref mP, .int cash, .int cnt, .ref mS, .ref mK, .ref mL, .ref mT, .ref mZ, .ref mD, .ref mH, .ref mG, .ref mC, .int cuts, .int lin, .ref m1, .ref m2, .ref m3, .ref m4, .ref mB, .int siz, .int ctr, .ref mX, .ref mY])), (mS, .inl (cI, 8, .inl st)), (mG, .inl (cZ, 72, .inl gg))] s → lv_has ls 5 [(0, .ref g), (1, .int (nI k0)), (2, .int 0), (3, .int (nI (gsF gg k0 k))), (4, .int (nI (k + 1)))] → W p l e R s m args below meth c H locs cells slots Q (F0 m 24 ls []) := by
  obtain ⟨hx, hb, hml, hown, hts⟩ := id S
  subst hR
  obtain ⟨rfl, rfl⟩ := hC
  intro n
  induction n with
  | zero =>
    intro k ls H locs hk hw hl
    obtain rfl : 8 = k := by omega
    refine lv_iload hx hb dMO_version_24 (lv_at hl 4 rfl) ?_
    refine lv_bipush (v := 9) hx hb dMO_version_26 (by decide) ?_
    refine lv_icmp_ge (tgt := 63) hx hb dMO_version_28 (by decide) (fun h28 => ?_) (fun h28 => absurd (by decide +kernel) h28)
    exact kk ls H locs hw (lv_sub hl [0, 1, 2, 3, 4] rfl)
  | succ n ih =>
    intro k ls H locs hk hw hl
    have hkN : k < 8 := by omega
    refine lv_iload hx hb dMO_version_24 (lv_at hl 4 rfl) ?_
    refine lv_bipush (v := 9) hx hb dMO_version_26 (by decide) ?_
    refine lv_icmp_ge (tgt := 63) hx hb dMO_version_28 (by decide) (fun h28 => absurd h28 (nI_ge (b := 9) (by omega) (by decide))) (fun h28 => ?_)
    refine lv_aload_n hx hb dMO_version_31 rfl (lv_at hl 0 rfl) ?_
    refine x_get S hw (C := RMO) (T := TMO) (N := 23) inMO 0 rfl rfl 10 (by decide) xh_2_155 (v := .ref mG) rfl dMO_version_32 ?_
    refine lv_bipush (v := 9) hx hb dMO_version_35 (by decide) ?_
    refine lv_iload_n hx hb dMO_version_37 rfl (lv_at hl 1 rfl) ?_
    refine lv_imul hx hb dMO_version_38 ?_
    refine lv_iload hx hb dMO_version_39 (lv_at hl 4 rfl) ?_
    refine lv_iadd hx hb dMO_version_41 ?_
    refine x_topi (y := nI (9 * k0 + (k + 1))) (ix9 _ _) ?_
    refine x_zald S hw 2 1 rfl rfl (j := (9 * k0 + (k + 1))) (vp_in_nI (by omega) (by omega)) (nI_clamp (by omega)) dMO_version_42 ?_
    refine lv_if_eq (tgt := 55) hx hb dMO_version_43 (by decide) (fun h43 => ?_) (fun h43 => ?_)
    · skip
      refine lv_iload_n hx hb dMO_version_55 rfl (lv_at hl 3 rfl) ?_
      refine lv_istore_n (lv' := [(3, .int (nI (gsF gg k0 k))), (0, .ref g), (1, .int (nI k0)), (2, .int 0), (4, .int (nI (k + 1)))]) hx hb dMO_version_56 rfl hl (by decide) rfl (fun ls hl => ?_)
      refine lv_iinc (v := nI ((k + 1) + 1)) (lv' := [(4, .int (nI ((k + 1) + 1))), (3, .int (nI (gsF gg k0 k))), (0, .ref g), (1, .int (nI k0)), (2, .int 0)]) hx hb dMO_version_57 hl (k := 4) rfl ((nI_succ _).symm) (by decide) rfl (fun ls hl => ?_)
      refine lv_goto (tgt := 24) hx hb dMO_version_60 (by decide) ?_
      have e0 : nI (gsF gg k0 (k + 1)) = nI (gsF gg k0 k) := by simp only [gsF, if_pos h43]
      refine ih (k + 1) ls H locs (by omega) ?_ ?_
      · exact hw
      · rw [e0]; exact lv_sub hl [2, 3, 4, 1, 0] rfl
    refine lv_iload_n hx hb dMO_version_46 rfl (lv_at hl 3 rfl) ?_
    refine lv_iconst (v := 1) hx hb dMO_version_47 (by decide) ?_
    refine lv_iload hx hb dMO_version_48 (lv_at hl 4 rfl) ?_
    refine lv_ishl hx hb dMO_version_50 ?_
    refine lv_ior hx hb dMO_version_51 ?_
    refine x_topi (y := nI (gsF gg k0 k ||| 2 ^ (k + 1))) (or_bit _ (by omega)) ?_
    refine lv_goto (tgt := 56) hx hb dMO_version_52 (by decide) ?_
    refine lv_istore_n (lv' := [(3, .int (nI (gsF gg k0 k ||| 2 ^ (k + 1)))), (0, .ref g), (1, .int (nI k0)), (2, .int 0), (4, .int (nI (k + 1)))]) hx hb dMO_version_56 rfl hl (by decide) rfl (fun ls hl => ?_)
    refine lv_iinc (v := nI ((k + 1) + 1)) (lv' := [(4, .int (nI ((k + 1) + 1))), (3, .int (nI (gsF gg k0 k ||| 2 ^ (k + 1)))), (0, .ref g), (1, .int (nI k0)), (2, .int 0)]) hx hb dMO_version_57 hl (k := 4) rfl ((nI_succ _).symm) (by decide) rfl (fun ls hl => ?_)
    refine lv_goto (tgt := 24) hx hb dMO_version_60 (by decide) ?_
    have e0 : nI (gsF gg k0 (k + 1)) = nI (gsF gg k0 k ||| 2 ^ (k + 1)) := by simp only [gsF, if_neg h43]
    refine ih (k + 1) ls H locs (by omega) ?_ ?_
    · exact hw
    · rw [e0]; exact lv_sub hl [2, 3, 4, 1, 0] rfl

set_option maxHeartbeats 4000000 in
set_option maxRecDepth 100000 in
theorem m_ver_0 (l : Launch) (D : va_G) (cI cZ cV : ClassId) (g : Nat) (mP : Nat) (mS : Nat) (mK : Nat) (mL : Nat) (mT : Nat) (mZ : Nat) (mD : Nat) (mH : Nat) (mG : Nat) (mC : Nat) (m1 : Nat) (m2 : Nat) (m3 : Nat) (m4 : Nat) (mB : Nat) (mX : Nat) (mY : Nat) (cash : Int32) (cuts : Int32) (lin : Int32) (siz : Int32) (ctr : Int32) (n1 : Nat) (k0 : Nat) (st : Nat → Int32) (gg : Nat → Int32) (hk : k0 < n1 ∧ n1 ≤ 8) : XI l yMO_version cMO_version 5 (some .int) D (xT3 cI cZ cV) 1 0 0 [.ref g, .int (nI k0), .int 0] [(g, .inr (6, [.ref mP, .int cash, .int (nI n1), .ref mS, .ref mK, .ref mL, .ref mT, .ref mZ, .ref mD, .ref mH, .ref mG, .ref mC, .int cuts, .int lin, .ref m1, .ref m2, .ref m3, .ref m4, .ref mB, .int siz, .int ctr, .ref mX, .ref mY])), (mS, .inl (cI, 8, .inl st)), (mG, .inl (cZ, 72, .inl gg))] (fun r u => r = st k0 ∧ u = [(g, .inr (6, [.ref mP, .int cash, .int (nI n1), .ref mS, .ref mK, .ref mL, .ref mT, .ref mZ, .ref mD, .ref mH, .ref mG, .ref mC, .int cuts, .int lin, .ref m1, .ref m2, .ref m3, .ref m4, .ref mB, .int siz, .int ctr, .ref mX, .ref mY])), (mS, .inl (cI, 8, .inl st)), (mG, .inl (cZ, 72, .inl gg))]) := by
  intro sz
  refine x_ofW (Qc := fun A => va_Qi _ (xB D A) A) sz (by decide) (Nat.le_of_ble_eq_true rfl) ?_
  intro p e s m args below meth c A ls S hr hlk hnm hw hl
  obtain ⟨hx, hb, hml, hown, hts⟩ := id S
  have hl : lv_has ls 5 [(0, .ref g), (1, .int (nI k0)), (2, .int 0)] := hl
  refine lv_aload_n hx hb dMO_version_0 rfl (lv_at hl 0 rfl) ?_
  refine lv_iload_n hx hb dMO_version_1 rfl (lv_at hl 1 rfl) ?_
  refine x_calliD (ws' := [(g, .inr (6, [.ref mP, .int cash, .int (nI n1), .ref mS, .ref mK, .ref mL, .ref mT, .ref mZ, .ref mD, .ref mH, .ref mG, .ref mC, .int cuts, .int lin, .ref m1, .ref m2, .ref m3, .ref m4, .ref mB, .int siz, .int ctr, .ref mX, .ref mY])), (mS, .inl (cI, 8, .inl st)), (mG, .inl (cZ, 72, .inl gg))]) hw [0] rfl rfl (x_runV (n := 1) (rest := []) (As := [.int (nI k0)]) S hw (m_none_n l D cI cZ cV g mP mS mK mL mT mZ mD mH mG mC m1 m2 m3 m4 mB mX mY cash cuts lin siz ctr n1 k0 hk _) xh_3_19 xh_3_16 xh_3_18 xsel_MO_none xh_1_6 (by decide +kernel) ⟨by decide, by decide⟩ [0] rfl rfl (ci := 6) (q0 := 0) rfl rfl rfl hl.1 rfl (Nat.le_of_ble_eq_true rfl) dMO_version_2 ⟨by decide, by decide⟩) rfl rfl (fun H locs hw => ?_)
  refine lv_if_ne (tgt := 17) hx hb dMO_version_5 (by decide) (fun h5 => absurd rfl h5) (fun h5 => ?_)
  refine lv_iload_n hx hb dMO_version_8 rfl (lv_at hl 2 rfl) ?_
  refine lv_if_lt (tgt := 17) hx hb dMO_version_9 (by decide) (fun h9 => absurd h9 (by decide)) (fun h9 => ?_)
  refine lv_iload_n hx hb dMO_version_12 rfl (lv_at hl 2 rfl) ?_
  refine lv_iconst (v := 3) hx hb dMO_version_13 (by decide) ?_
  refine lv_icmp_le (tgt := 19) hx hb dMO_version_14 (by decide) (fun h14 => ?_) (fun h14 => absurd (by decide) h14)
  refine lv_iconst (v := 0) hx hb dMO_version_19 (by decide) ?_
  refine lv_istore_n (lv' := [(3, .int 0), (0, .ref g), (1, .int (nI k0)), (2, .int 0)]) hx hb dMO_version_20 rfl hl (by decide) rfl (fun ls hl => ?_)
  refine lv_iconst (v := 1) hx hb dMO_version_21 (by decide) ?_
  refine lv_istore (lv' := [(4, .int 1), (3, .int 0), (0, .ref g), (1, .int (nI k0)), (2, .int 0)]) hx hb dMO_version_22 hl (by decide) rfl (fun ls hl => ?_)
  refine ml_ver_0 rfl ⟨rfl, rfl⟩ S g mP mS mK mL mT mZ mD mH mG mC m1 m2 m3 m4 mB mX mY cash (nI n1) cuts lin siz ctr st gg k0 (by omega) (fun ls H locs hw hl => ?_) 8 0 ls _ _ (Nat.zero_add _) hw (lv_sub hl [2, 3, 4, 1, 0] rfl)
  refine lv_iload_n hx hb dMO_version_63 rfl (lv_at hl 2 rfl) ?_
  refine lv_if_ne (tgt := 76) hx hb dMO_version_64 (by decide) (fun h64 => absurd rfl h64) (fun h64 => ?_)
  refine lv_aload_n hx hb dMO_version_67 rfl (lv_at hl 0 rfl) ?_
  refine x_get S hw (C := RMO) (T := TMO) (N := 23) inMO 0 rfl rfl 3 (by decide) xh_2_148 (v := .ref mS) rfl dMO_version_68 ?_
  refine lv_iload_n hx hb dMO_version_71 rfl (lv_at hl 1 rfl) ?_
  refine x_iald S hw 1 0 rfl rfl (j := k0) (vp_in_nI (by omega) (by omega)) (nI_clamp (by omega)) dMO_version_72 ?_
  refine lv_goto (tgt := 123) hx hb dMO_version_73 (by decide) ?_
  exact x_iret S hr hlk hw (by decide) (by decide) (⟨rfl, rfl⟩) dMO_version_123

set_option maxHeartbeats 4000000 in
set_option maxRecDepth 100000 in
theorem ml_ver_1a {p : Program} {l : Launch} {e : Env} {s : State} {m : MethodId} {args : Array Value} {below : List Frame} {meth : Method} {c : Code} {Q : State → Prop} {D : va_G} {A : Nat → Prop} {cI cZ cV : ClassId} {H0 : Heap} {R : Room} {cells slots : Nat} (hR : R = (xR 1 0 0)) (hC : cells = 0 ∧ slots = 0) (S : CallFix p m c cMO_version 5 s args xAll "EscrowedVersionsModel") (g : Nat) (mP : Nat) (mS : Nat) (mK : Nat) (mL : Nat) (mT : Nat) (mZ : Nat) (mD : Nat) (mH : Nat) (mG : Nat) (mC : Nat) (m1 : Nat) (m2 : Nat) (m3 : Nat) (m4 : Nat) (mB : Nat) (mX : Nat) (mY : Nat) (cash : Int32) (cnt : Int32) (cuts : Int32) (lin : Int32) (siz : Int32) (ctr : Int32) (su : Nat → Int32) (gg : Nat → Int32) (k0 : Nat) (hk0 : k0 < 8)
    (kk : ∀ (ls : Array Slot) (H : Heap) (locs : List Loc), xW D (xT3 cI cZ cV) A H0 H locs [(g, .inr (6, [.ref mP, .int cash, .int cnt, .ref mS, .ref mK, .ref mL, .ref mT, .ref mZ, .ref mD, .ref mH, .ref mG, .ref mC, .int cuts, .int lin, .ref m1, .ref m2, .ref m3, .ref m4, .ref mB, .int siz, .int ctr, .ref mX, .ref mY])), (mL, .inl (cZ, 8, .inl su)), (mG, .inl (cZ, 72, .inl gg))] s → lv_has ls 5 [(0, .ref g), (1, .int (nI k0)), (2, .int 1), (3, .int (nI (gsF gg k0 8))), (4, .int (nI (8 + 1)))] → W p l e R s m args below meth c H locs cells slots Q (F0 m 63 ls [])) :
    ∀ (n k : Nat) (ls : Array Slot) (H : Heap) (locs : List Loc), k + n = 8 → xW D (xT3 cI cZ cV) A H0 H locs [(g, .inr (6, [.ref mP, .int cash, .int cnt, .ref mS, .ref mK, .ref mL, .ref mT, .ref mZ, .ref mD, .ref mH, .ref mG, .ref mC, .int cuts, .int lin, .ref m1, .ref m2, .ref m3, .ref m4, .ref mB, .int siz, .int ctr, .ref mX, .ref mY])), (mL, .inl (cZ, 8, .inl su)), (mG, .inl (cZ, 72, .inl gg))] s → lv_has ls 5 [(0, .ref g), (1, .int (nI k0)), (2, .int 1), (3, .int (nI (gsF gg k0 k))), (4, .int (nI (k + 1)))] → W p l e R s m args below meth c H locs cells slots Q (F0 m 24 ls []) := by
  obtain ⟨hx, hb, hml, hown, hts⟩ := id S
  subst hR
  obtain ⟨rfl, rfl⟩ := hC
  intro n
  induction n with
  | zero =>
    intro k ls H locs hk hw hl
    obtain rfl : 8 = k := by omega
    refine lv_iload hx hb dMO_version_24 (lv_at hl 4 rfl) ?_
    refine lv_bipush (v := 9) hx hb dMO_version_26 (by decide) ?_
    refine lv_icmp_ge (tgt := 63) hx hb dMO_version_28 (by decide) (fun h28 => ?_) (fun h28 => absurd (by decide +kernel) h28)
    exact kk ls H locs hw (lv_sub hl [0, 1, 2, 3, 4] rfl)
  | succ n ih =>
    intro k ls H locs hk hw hl
    have hkN : k < 8 := by omega
    refine lv_iload hx hb dMO_version_24 (lv_at hl 4 rfl) ?_
    refine lv_bipush (v := 9) hx hb dMO_version_26 (by decide) ?_
    refine lv_icmp_ge (tgt := 63) hx hb dMO_version_28 (by decide) (fun h28 => absurd h28 (nI_ge (b := 9) (by omega) (by decide))) (fun h28 => ?_)
    refine lv_aload_n hx hb dMO_version_31 rfl (lv_at hl 0 rfl) ?_
    refine x_get S hw (C := RMO) (T := TMO) (N := 23) inMO 0 rfl rfl 10 (by decide) xh_2_155 (v := .ref mG) rfl dMO_version_32 ?_
    refine lv_bipush (v := 9) hx hb dMO_version_35 (by decide) ?_
    refine lv_iload_n hx hb dMO_version_37 rfl (lv_at hl 1 rfl) ?_
    refine lv_imul hx hb dMO_version_38 ?_
    refine lv_iload hx hb dMO_version_39 (lv_at hl 4 rfl) ?_
    refine lv_iadd hx hb dMO_version_41 ?_
    refine x_topi (y := nI (9 * k0 + (k + 1))) (ix9 _ _) ?_
    refine x_zald S hw 2 1 rfl rfl (j := (9 * k0 + (k + 1))) (vp_in_nI (by omega) (by omega)) (nI_clamp (by omega)) dMO_version_42 ?_
    refine lv_if_eq (tgt := 55) hx hb dMO_version_43 (by decide) (fun h43 => ?_) (fun h43 => ?_)
    · skip
      refine lv_iload_n hx hb dMO_version_55 rfl (lv_at hl 3 rfl) ?_
      refine lv_istore_n (lv' := [(3, .int (nI (gsF gg k0 k))), (0, .ref g), (1, .int (nI k0)), (2, .int 1), (4, .int (nI (k + 1)))]) hx hb dMO_version_56 rfl hl (by decide) rfl (fun ls hl => ?_)
      refine lv_iinc (v := nI ((k + 1) + 1)) (lv' := [(4, .int (nI ((k + 1) + 1))), (3, .int (nI (gsF gg k0 k))), (0, .ref g), (1, .int (nI k0)), (2, .int 1)]) hx hb dMO_version_57 hl (k := 4) rfl ((nI_succ _).symm) (by decide) rfl (fun ls hl => ?_)
      refine lv_goto (tgt := 24) hx hb dMO_version_60 (by decide) ?_
      have e0 : nI (gsF gg k0 (k + 1)) = nI (gsF gg k0 k) := by simp only [gsF, if_pos h43]
      refine ih (k + 1) ls H locs (by omega) ?_ ?_
      · exact hw
      · rw [e0]; exact lv_sub hl [2, 3, 4, 1, 0] rfl
    refine lv_iload_n hx hb dMO_version_46 rfl (lv_at hl 3 rfl) ?_
    refine lv_iconst (v := 1) hx hb dMO_version_47 (by decide) ?_
    refine lv_iload hx hb dMO_version_48 (lv_at hl 4 rfl) ?_
    refine lv_ishl hx hb dMO_version_50 ?_
    refine lv_ior hx hb dMO_version_51 ?_
    refine x_topi (y := nI (gsF gg k0 k ||| 2 ^ (k + 1))) (or_bit _ (by omega)) ?_
    refine lv_goto (tgt := 56) hx hb dMO_version_52 (by decide) ?_
    refine lv_istore_n (lv' := [(3, .int (nI (gsF gg k0 k ||| 2 ^ (k + 1)))), (0, .ref g), (1, .int (nI k0)), (2, .int 1), (4, .int (nI (k + 1)))]) hx hb dMO_version_56 rfl hl (by decide) rfl (fun ls hl => ?_)
    refine lv_iinc (v := nI ((k + 1) + 1)) (lv' := [(4, .int (nI ((k + 1) + 1))), (3, .int (nI (gsF gg k0 k ||| 2 ^ (k + 1)))), (0, .ref g), (1, .int (nI k0)), (2, .int 1)]) hx hb dMO_version_57 hl (k := 4) rfl ((nI_succ _).symm) (by decide) rfl (fun ls hl => ?_)
    refine lv_goto (tgt := 24) hx hb dMO_version_60 (by decide) ?_
    have e0 : nI (gsF gg k0 (k + 1)) = nI (gsF gg k0 k ||| 2 ^ (k + 1)) := by simp only [gsF, if_neg h43]
    refine ih (k + 1) ls H locs (by omega) ?_ ?_
    · exact hw
    · rw [e0]; exact lv_sub hl [2, 3, 4, 1, 0] rfl

set_option maxHeartbeats 4000000 in
set_option maxRecDepth 100000 in
theorem m_ver_1a (l : Launch) (D : va_G) (cI cZ cV : ClassId) (g : Nat) (mP : Nat) (mS : Nat) (mK : Nat) (mL : Nat) (mT : Nat) (mZ : Nat) (mD : Nat) (mH : Nat) (mG : Nat) (mC : Nat) (m1 : Nat) (m2 : Nat) (m3 : Nat) (m4 : Nat) (mB : Nat) (mX : Nat) (mY : Nat) (cash : Int32) (cuts : Int32) (lin : Int32) (siz : Int32) (ctr : Int32) (n1 : Nat) (k0 : Nat) (su : Nat → Int32) (gg : Nat → Int32) (hk : k0 < n1 ∧ n1 ≤ 8) (hl9 : su k0 = 0) : XI l yMO_version cMO_version 5 (some .int) D (xT3 cI cZ cV) 1 0 0 [.ref g, .int (nI k0), .int 1] [(g, .inr (6, [.ref mP, .int cash, .int (nI n1), .ref mS, .ref mK, .ref mL, .ref mT, .ref mZ, .ref mD, .ref mH, .ref mG, .ref mC, .int cuts, .int lin, .ref m1, .ref m2, .ref m3, .ref m4, .ref mB, .int siz, .int ctr, .ref mX, .ref mY])), (mL, .inl (cZ, 8, .inl su)), (mG, .inl (cZ, 72, .inl gg))] (fun r u => r = 0 ∧ u = [(g, .inr (6, [.ref mP, .int cash, .int (nI n1), .ref mS, .ref mK, .ref mL, .ref mT, .ref mZ, .ref mD, .ref mH, .ref mG, .ref mC, .int cuts, .int lin, .ref m1, .ref m2, .ref m3, .ref m4, .ref mB, .int siz, .int ctr, .ref mX, .ref mY])), (mL, .inl (cZ, 8, .inl su)), (mG, .inl (cZ, 72, .inl gg))]) := by
  intro sz
  refine x_ofW (Qc := fun A => va_Qi _ (xB D A) A) sz (by decide) (Nat.le_of_ble_eq_true rfl) ?_
  intro p e s m args below meth c A ls S hr hlk hnm hw hl
  obtain ⟨hx, hb, hml, hown, hts⟩ := id S
  have hl : lv_has ls 5 [(0, .ref g), (1, .int (nI k0)), (2, .int 1)] := hl
  refine lv_aload_n hx hb dMO_version_0 rfl (lv_at hl 0 rfl) ?_
  refine lv_iload_n hx hb dMO_version_1 rfl (lv_at hl 1 rfl) ?_
  refine x_calliD (ws' := [(g, .inr (6, [.ref mP, .int cash, .int (nI n1), .ref mS, .ref mK, .ref mL, .ref mT, .ref mZ, .ref mD, .ref mH, .ref mG, .ref mC, .int cuts, .int lin, .ref m1, .ref m2, .ref m3, .ref m4, .ref mB, .int siz, .int ctr, .ref mX, .ref mY])), (mL, .inl (cZ, 8, .inl su)), (mG, .inl (cZ, 72, .inl gg))]) hw [0] rfl rfl (x_runV (n := 1) (rest := []) (As := [.int (nI k0)]) S hw (m_none_n l D cI cZ cV g mP mS mK mL mT mZ mD mH mG mC m1 m2 m3 m4 mB mX mY cash cuts lin siz ctr n1 k0 hk _) xh_3_19 xh_3_16 xh_3_18 xsel_MO_none xh_1_6 (by decide +kernel) ⟨by decide, by decide⟩ [0] rfl rfl (ci := 6) (q0 := 0) rfl rfl rfl hl.1 rfl (Nat.le_of_ble_eq_true rfl) dMO_version_2 ⟨by decide, by decide⟩) rfl rfl (fun H locs hw => ?_)
  refine lv_if_ne (tgt := 17) hx hb dMO_version_5 (by decide) (fun h5 => absurd rfl h5) (fun h5 => ?_)
  refine lv_iload_n hx hb dMO_version_8 rfl (lv_at hl 2 rfl) ?_
  refine lv_if_lt (tgt := 17) hx hb dMO_version_9 (by decide) (fun h9 => absurd h9 (by decide)) (fun h9 => ?_)
  refine lv_iload_n hx hb dMO_version_12 rfl (lv_at hl 2 rfl) ?_
  refine lv_iconst (v := 3) hx hb dMO_version_13 (by decide) ?_
  refine lv_icmp_le (tgt := 19) hx hb dMO_version_14 (by decide) (fun h14 => ?_) (fun h14 => absurd (by decide) h14)
  refine lv_iconst (v := 0) hx hb dMO_version_19 (by decide) ?_
  refine lv_istore_n (lv' := [(3, .int 0), (0, .ref g), (1, .int (nI k0)), (2, .int 1)]) hx hb dMO_version_20 rfl hl (by decide) rfl (fun ls hl => ?_)
  refine lv_iconst (v := 1) hx hb dMO_version_21 (by decide) ?_
  refine lv_istore (lv' := [(4, .int 1), (3, .int 0), (0, .ref g), (1, .int (nI k0)), (2, .int 1)]) hx hb dMO_version_22 hl (by decide) rfl (fun ls hl => ?_)
  refine ml_ver_1a rfl ⟨rfl, rfl⟩ S g mP mS mK mL mT mZ mD mH mG mC m1 m2 m3 m4 mB mX mY cash (nI n1) cuts lin siz ctr su gg k0 (by omega) (fun ls H locs hw hl => ?_) 8 0 ls _ _ (Nat.zero_add _) hw (lv_sub hl [2, 3, 4, 1, 0] rfl)
  refine lv_iload_n hx hb dMO_version_63 rfl (lv_at hl 2 rfl) ?_
  refine lv_if_ne (tgt := 76) hx hb dMO_version_64 (by decide) (fun h64 => ?_) (fun h64 => absurd h64 (by decide))
  refine lv_iload_n hx hb dMO_version_76 rfl (lv_at hl 2 rfl) ?_
  refine lv_iconst (v := 1) hx hb dMO_version_77 (by decide) ?_
  refine lv_icmp_ne (tgt := 98) hx hb dMO_version_78 (by decide) (fun h78 => absurd rfl h78) (fun h78 => ?_)
  refine lv_aload_n hx hb dMO_version_81 rfl (lv_at hl 0 rfl) ?_
  refine x_get S hw (C := RMO) (T := TMO) (N := 23) inMO 0 rfl rfl 5 (by decide) xh_2_150 (v := .ref mL) rfl dMO_version_82 ?_
  refine lv_iload_n hx hb dMO_version_85 rfl (lv_at hl 1 rfl) ?_
  refine x_zald S hw 1 1 rfl rfl (j := k0) (vp_in_nI (by omega) (by omega)) (nI_clamp (by omega)) dMO_version_86 ?_
  refine lv_if_eq (tgt := 94) hx hb dMO_version_87 (by decide) (fun h87 => ?_) (fun h87 => absurd hl9 h87)
  refine lv_iconst (v := 0) hx hb dMO_version_94 (by decide) ?_
  refine lv_goto (tgt := 123) hx hb dMO_version_95 (by decide) ?_
  exact x_iret S hr hlk hw (by decide) (by decide) (⟨rfl, rfl⟩) dMO_version_123

set_option maxHeartbeats 4000000 in
set_option maxRecDepth 100000 in
theorem ml_ver_1b {p : Program} {l : Launch} {e : Env} {s : State} {m : MethodId} {args : Array Value} {below : List Frame} {meth : Method} {c : Code} {Q : State → Prop} {D : va_G} {A : Nat → Prop} {cI cZ cV : ClassId} {H0 : Heap} {R : Room} {cells slots : Nat} (hR : R = (xR 1 0 0)) (hC : cells = 0 ∧ slots = 0) (S : CallFix p m c cMO_version 5 s args xAll "EscrowedVersionsModel") (g : Nat) (mP : Nat) (mS : Nat) (mK : Nat) (mL : Nat) (mT : Nat) (mZ : Nat) (mD : Nat) (mH : Nat) (mG : Nat) (mC : Nat) (m1 : Nat) (m2 : Nat) (m3 : Nat) (m4 : Nat) (mB : Nat) (mX : Nat) (mY : Nat) (cash : Int32) (cnt : Int32) (cuts : Int32) (lin : Int32) (siz : Int32) (ctr : Int32) (su : Nat → Int32) (gg : Nat → Int32) (k0 : Nat) (hk0 : k0 < 8)
    (kk : ∀ (ls : Array Slot) (H : Heap) (locs : List Loc), xW D (xT3 cI cZ cV) A H0 H locs [(g, .inr (6, [.ref mP, .int cash, .int cnt, .ref mS, .ref mK, .ref mL, .ref mT, .ref mZ, .ref mD, .ref mH, .ref mG, .ref mC, .int cuts, .int lin, .ref m1, .ref m2, .ref m3, .ref m4, .ref mB, .int siz, .int ctr, .ref mX, .ref mY])), (mL, .inl (cZ, 8, .inl su)), (mG, .inl (cZ, 72, .inl gg))] s → lv_has ls 5 [(0, .ref g), (1, .int (nI k0)), (2, .int 1), (3, .int (nI (gsF gg k0 8))), (4, .int (nI (8 + 1)))] → W p l e R s m args below meth c H locs cells slots Q (F0 m 63 ls [])) :
    ∀ (n k : Nat) (ls : Array Slot) (H : Heap) (locs : List Loc), k + n = 8 → xW D (xT3 cI cZ cV) A H0 H locs [(g, .inr (6, [.ref mP, .int cash, .int cnt, .ref mS, .ref mK, .ref mL, .ref mT, .ref mZ, .ref mD, .ref mH, .ref mG, .ref mC, .int cuts, .int lin, .ref m1, .ref m2, .ref m3, .ref m4, .ref mB, .int siz, .int ctr, .ref mX, .ref mY])), (mL, .inl (cZ, 8, .inl su)), (mG, .inl (cZ, 72, .inl gg))] s → lv_has ls 5 [(0, .ref g), (1, .int (nI k0)), (2, .int 1), (3, .int (nI (gsF gg k0 k))), (4, .int (nI (k + 1)))] → W p l e R s m args below meth c H locs cells slots Q (F0 m 24 ls []) := by
  obtain ⟨hx, hb, hml, hown, hts⟩ := id S
  subst hR
  obtain ⟨rfl, rfl⟩ := hC
  intro n
  induction n with
  | zero =>
    intro k ls H locs hk hw hl
    obtain rfl : 8 = k := by omega
    refine lv_iload hx hb dMO_version_24 (lv_at hl 4 rfl) ?_
    refine lv_bipush (v := 9) hx hb dMO_version_26 (by decide) ?_
    refine lv_icmp_ge (tgt := 63) hx hb dMO_version_28 (by decide) (fun h28 => ?_) (fun h28 => absurd (by decide +kernel) h28)
    exact kk ls H locs hw (lv_sub hl [0, 1, 2, 3, 4] rfl)
  | succ n ih =>
    intro k ls H locs hk hw hl
    have hkN : k < 8 := by omega
    refine lv_iload hx hb dMO_version_24 (lv_at hl 4 rfl) ?_
    refine lv_bipush (v := 9) hx hb dMO_version_26 (by decide) ?_
    refine lv_icmp_ge (tgt := 63) hx hb dMO_version_28 (by decide) (fun h28 => absurd h28 (nI_ge (b := 9) (by omega) (by decide))) (fun h28 => ?_)
    refine lv_aload_n hx hb dMO_version_31 rfl (lv_at hl 0 rfl) ?_
    refine x_get S hw (C := RMO) (T := TMO) (N := 23) inMO 0 rfl rfl 10 (by decide) xh_2_155 (v := .ref mG) rfl dMO_version_32 ?_
    refine lv_bipush (v := 9) hx hb dMO_version_35 (by decide) ?_
    refine lv_iload_n hx hb dMO_version_37 rfl (lv_at hl 1 rfl) ?_
    refine lv_imul hx hb dMO_version_38 ?_
    refine lv_iload hx hb dMO_version_39 (lv_at hl 4 rfl) ?_
    refine lv_iadd hx hb dMO_version_41 ?_
    refine x_topi (y := nI (9 * k0 + (k + 1))) (ix9 _ _) ?_
    refine x_zald S hw 2 1 rfl rfl (j := (9 * k0 + (k + 1))) (vp_in_nI (by omega) (by omega)) (nI_clamp (by omega)) dMO_version_42 ?_
    refine lv_if_eq (tgt := 55) hx hb dMO_version_43 (by decide) (fun h43 => ?_) (fun h43 => ?_)
    · skip
      refine lv_iload_n hx hb dMO_version_55 rfl (lv_at hl 3 rfl) ?_
      refine lv_istore_n (lv' := [(3, .int (nI (gsF gg k0 k))), (0, .ref g), (1, .int (nI k0)), (2, .int 1), (4, .int (nI (k + 1)))]) hx hb dMO_version_56 rfl hl (by decide) rfl (fun ls hl => ?_)
      refine lv_iinc (v := nI ((k + 1) + 1)) (lv' := [(4, .int (nI ((k + 1) + 1))), (3, .int (nI (gsF gg k0 k))), (0, .ref g), (1, .int (nI k0)), (2, .int 1)]) hx hb dMO_version_57 hl (k := 4) rfl ((nI_succ _).symm) (by decide) rfl (fun ls hl => ?_)
      refine lv_goto (tgt := 24) hx hb dMO_version_60 (by decide) ?_
      have e0 : nI (gsF gg k0 (k + 1)) = nI (gsF gg k0 k) := by simp only [gsF, if_pos h43]
      refine ih (k + 1) ls H locs (by omega) ?_ ?_
      · exact hw
      · rw [e0]; exact lv_sub hl [2, 3, 4, 1, 0] rfl
    refine lv_iload_n hx hb dMO_version_46 rfl (lv_at hl 3 rfl) ?_
    refine lv_iconst (v := 1) hx hb dMO_version_47 (by decide) ?_
    refine lv_iload hx hb dMO_version_48 (lv_at hl 4 rfl) ?_
    refine lv_ishl hx hb dMO_version_50 ?_
    refine lv_ior hx hb dMO_version_51 ?_
    refine x_topi (y := nI (gsF gg k0 k ||| 2 ^ (k + 1))) (or_bit _ (by omega)) ?_
    refine lv_goto (tgt := 56) hx hb dMO_version_52 (by decide) ?_
    refine lv_istore_n (lv' := [(3, .int (nI (gsF gg k0 k ||| 2 ^ (k + 1)))), (0, .ref g), (1, .int (nI k0)), (2, .int 1), (4, .int (nI (k + 1)))]) hx hb dMO_version_56 rfl hl (by decide) rfl (fun ls hl => ?_)
    refine lv_iinc (v := nI ((k + 1) + 1)) (lv' := [(4, .int (nI ((k + 1) + 1))), (3, .int (nI (gsF gg k0 k ||| 2 ^ (k + 1)))), (0, .ref g), (1, .int (nI k0)), (2, .int 1)]) hx hb dMO_version_57 hl (k := 4) rfl ((nI_succ _).symm) (by decide) rfl (fun ls hl => ?_)
    refine lv_goto (tgt := 24) hx hb dMO_version_60 (by decide) ?_
    have e0 : nI (gsF gg k0 (k + 1)) = nI (gsF gg k0 k ||| 2 ^ (k + 1)) := by simp only [gsF, if_neg h43]
    refine ih (k + 1) ls H locs (by omega) ?_ ?_
    · exact hw
    · rw [e0]; exact lv_sub hl [2, 3, 4, 1, 0] rfl

set_option maxHeartbeats 4000000 in
set_option maxRecDepth 100000 in
theorem m_ver_1b (l : Launch) (D : va_G) (cI cZ cV : ClassId) (g : Nat) (mP : Nat) (mS : Nat) (mK : Nat) (mL : Nat) (mT : Nat) (mZ : Nat) (mD : Nat) (mH : Nat) (mG : Nat) (mC : Nat) (m1 : Nat) (m2 : Nat) (m3 : Nat) (m4 : Nat) (mB : Nat) (mX : Nat) (mY : Nat) (cash : Int32) (cuts : Int32) (lin : Int32) (siz : Int32) (ctr : Int32) (n1 : Nat) (k0 : Nat) (su : Nat → Int32) (gg : Nat → Int32) (hk : k0 < n1 ∧ n1 ≤ 8) (hl9 : ¬ su k0 = 0) : XI l yMO_version cMO_version 5 (some .int) D (xT3 cI cZ cV) 1 0 0 [.ref g, .int (nI k0), .int 1] [(g, .inr (6, [.ref mP, .int cash, .int (nI n1), .ref mS, .ref mK, .ref mL, .ref mT, .ref mZ, .ref mD, .ref mH, .ref mG, .ref mC, .int cuts, .int lin, .ref m1, .ref m2, .ref m3, .ref m4, .ref mB, .int siz, .int ctr, .ref mX, .ref mY])), (mL, .inl (cZ, 8, .inl su)), (mG, .inl (cZ, 72, .inl gg))] (fun r u => r = 1 ∧ u = [(g, .inr (6, [.ref mP, .int cash, .int (nI n1), .ref mS, .ref mK, .ref mL, .ref mT, .ref mZ, .ref mD, .ref mH, .ref mG, .ref mC, .int cuts, .int lin, .ref m1, .ref m2, .ref m3, .ref m4, .ref mB, .int siz, .int ctr, .ref mX, .ref mY])), (mL, .inl (cZ, 8, .inl su)), (mG, .inl (cZ, 72, .inl gg))]) := by
  intro sz
  refine x_ofW (Qc := fun A => va_Qi _ (xB D A) A) sz (by decide) (Nat.le_of_ble_eq_true rfl) ?_
  intro p e s m args below meth c A ls S hr hlk hnm hw hl
  obtain ⟨hx, hb, hml, hown, hts⟩ := id S
  have hl : lv_has ls 5 [(0, .ref g), (1, .int (nI k0)), (2, .int 1)] := hl
  refine lv_aload_n hx hb dMO_version_0 rfl (lv_at hl 0 rfl) ?_
  refine lv_iload_n hx hb dMO_version_1 rfl (lv_at hl 1 rfl) ?_
  refine x_calliD (ws' := [(g, .inr (6, [.ref mP, .int cash, .int (nI n1), .ref mS, .ref mK, .ref mL, .ref mT, .ref mZ, .ref mD, .ref mH, .ref mG, .ref mC, .int cuts, .int lin, .ref m1, .ref m2, .ref m3, .ref m4, .ref mB, .int siz, .int ctr, .ref mX, .ref mY])), (mL, .inl (cZ, 8, .inl su)), (mG, .inl (cZ, 72, .inl gg))]) hw [0] rfl rfl (x_runV (n := 1) (rest := []) (As := [.int (nI k0)]) S hw (m_none_n l D cI cZ cV g mP mS mK mL mT mZ mD mH mG mC m1 m2 m3 m4 mB mX mY cash cuts lin siz ctr n1 k0 hk _) xh_3_19 xh_3_16 xh_3_18 xsel_MO_none xh_1_6 (by decide +kernel) ⟨by decide, by decide⟩ [0] rfl rfl (ci := 6) (q0 := 0) rfl rfl rfl hl.1 rfl (Nat.le_of_ble_eq_true rfl) dMO_version_2 ⟨by decide, by decide⟩) rfl rfl (fun H locs hw => ?_)
  refine lv_if_ne (tgt := 17) hx hb dMO_version_5 (by decide) (fun h5 => absurd rfl h5) (fun h5 => ?_)
  refine lv_iload_n hx hb dMO_version_8 rfl (lv_at hl 2 rfl) ?_
  refine lv_if_lt (tgt := 17) hx hb dMO_version_9 (by decide) (fun h9 => absurd h9 (by decide)) (fun h9 => ?_)
  refine lv_iload_n hx hb dMO_version_12 rfl (lv_at hl 2 rfl) ?_
  refine lv_iconst (v := 3) hx hb dMO_version_13 (by decide) ?_
  refine lv_icmp_le (tgt := 19) hx hb dMO_version_14 (by decide) (fun h14 => ?_) (fun h14 => absurd (by decide) h14)
  refine lv_iconst (v := 0) hx hb dMO_version_19 (by decide) ?_
  refine lv_istore_n (lv' := [(3, .int 0), (0, .ref g), (1, .int (nI k0)), (2, .int 1)]) hx hb dMO_version_20 rfl hl (by decide) rfl (fun ls hl => ?_)
  refine lv_iconst (v := 1) hx hb dMO_version_21 (by decide) ?_
  refine lv_istore (lv' := [(4, .int 1), (3, .int 0), (0, .ref g), (1, .int (nI k0)), (2, .int 1)]) hx hb dMO_version_22 hl (by decide) rfl (fun ls hl => ?_)
  refine ml_ver_1b rfl ⟨rfl, rfl⟩ S g mP mS mK mL mT mZ mD mH mG mC m1 m2 m3 m4 mB mX mY cash (nI n1) cuts lin siz ctr su gg k0 (by omega) (fun ls H locs hw hl => ?_) 8 0 ls _ _ (Nat.zero_add _) hw (lv_sub hl [2, 3, 4, 1, 0] rfl)
  refine lv_iload_n hx hb dMO_version_63 rfl (lv_at hl 2 rfl) ?_
  refine lv_if_ne (tgt := 76) hx hb dMO_version_64 (by decide) (fun h64 => ?_) (fun h64 => absurd h64 (by decide))
  refine lv_iload_n hx hb dMO_version_76 rfl (lv_at hl 2 rfl) ?_
  refine lv_iconst (v := 1) hx hb dMO_version_77 (by decide) ?_
  refine lv_icmp_ne (tgt := 98) hx hb dMO_version_78 (by decide) (fun h78 => absurd rfl h78) (fun h78 => ?_)
  refine lv_aload_n hx hb dMO_version_81 rfl (lv_at hl 0 rfl) ?_
  refine x_get S hw (C := RMO) (T := TMO) (N := 23) inMO 0 rfl rfl 5 (by decide) xh_2_150 (v := .ref mL) rfl dMO_version_82 ?_
  refine lv_iload_n hx hb dMO_version_85 rfl (lv_at hl 1 rfl) ?_
  refine x_zald S hw 1 1 rfl rfl (j := k0) (vp_in_nI (by omega) (by omega)) (nI_clamp (by omega)) dMO_version_86 ?_
  refine lv_if_eq (tgt := 94) hx hb dMO_version_87 (by decide) (fun h87 => absurd h87 hl9) (fun h87 => ?_)
  refine lv_iconst (v := 1) hx hb dMO_version_90 (by decide) ?_
  refine lv_goto (tgt := 123) hx hb dMO_version_91 (by decide) ?_
  exact x_iret S hr hlk hw (by decide) (by decide) (⟨rfl, rfl⟩) dMO_version_123

set_option maxHeartbeats 4000000 in
set_option maxRecDepth 100000 in
theorem ml_ver_2 {p : Program} {l : Launch} {e : Env} {s : State} {m : MethodId} {args : Array Value} {below : List Frame} {meth : Method} {c : Code} {Q : State → Prop} {D : va_G} {A : Nat → Prop} {cI cZ cV : ClassId} {H0 : Heap} {R : Room} {cells slots : Nat} (hR : R = (xR 1 0 0)) (hC : cells = 0 ∧ slots = 0) (S : CallFix p m c cMO_version 5 s args xAll "EscrowedVersionsModel") (g : Nat) (mP : Nat) (mS : Nat) (mK : Nat) (mL : Nat) (mT : Nat) (mZ : Nat) (mD : Nat) (mH : Nat) (mG : Nat) (mC : Nat) (m1 : Nat) (m2 : Nat) (m3 : Nat) (m4 : Nat) (mB : Nat) (mX : Nat) (mY : Nat) (cash : Int32) (cnt : Int32) (cuts : Int32) (lin : Int32) (siz : Int32) (ctr : Int32) (tt : Nat → Int32) (zz : Nat → Int32) (gg : Nat → Int32) (k0 : Nat) (hk0 : k0 < 8)
    (kk : ∀ (ls : Array Slot) (H : Heap) (locs : List Loc), xW D (xT3 cI cZ cV) A H0 H locs [(g, .inr (6, [.ref mP, .int cash, .int cnt, .ref mS, .ref mK, .ref mL, .ref mT, .ref mZ, .ref mD, .ref mH, .ref mG, .ref mC, .int cuts, .int lin, .ref m1, .ref m2, .ref m3, .ref m4, .ref mB, .int siz, .int ctr, .ref mX, .ref mY])), (mT, .inl (cI, 8, .inl tt)), (mZ, .inl (cI, 8, .inl zz)), (mG, .inl (cZ, 72, .inl gg))] s → lv_has ls 5 [(0, .ref g), (1, .int (nI k0)), (2, .int 2), (3, .int (nI (gsF gg k0 8))), (4, .int (nI (8 + 1)))] → W p l e R s m args below meth c H locs cells slots Q (F0 m 63 ls [])) :
    ∀ (n k : Nat) (ls : Array Slot) (H : Heap) (locs : List Loc), k + n = 8 → xW D (xT3 cI cZ cV) A H0 H locs [(g, .inr (6, [.ref mP, .int cash, .int cnt, .ref mS, .ref mK, .ref mL, .ref mT, .ref mZ, .ref mD, .ref mH, .ref mG, .ref mC, .int cuts, .int lin, .ref m1, .ref m2, .ref m3, .ref m4, .ref mB, .int siz, .int ctr, .ref mX, .ref mY])), (mT, .inl (cI, 8, .inl tt)), (mZ, .inl (cI, 8, .inl zz)), (mG, .inl (cZ, 72, .inl gg))] s → lv_has ls 5 [(0, .ref g), (1, .int (nI k0)), (2, .int 2), (3, .int (nI (gsF gg k0 k))), (4, .int (nI (k + 1)))] → W p l e R s m args below meth c H locs cells slots Q (F0 m 24 ls []) := by
  obtain ⟨hx, hb, hml, hown, hts⟩ := id S
  subst hR
  obtain ⟨rfl, rfl⟩ := hC
  intro n
  induction n with
  | zero =>
    intro k ls H locs hk hw hl
    obtain rfl : 8 = k := by omega
    refine lv_iload hx hb dMO_version_24 (lv_at hl 4 rfl) ?_
    refine lv_bipush (v := 9) hx hb dMO_version_26 (by decide) ?_
    refine lv_icmp_ge (tgt := 63) hx hb dMO_version_28 (by decide) (fun h28 => ?_) (fun h28 => absurd (by decide +kernel) h28)
    exact kk ls H locs hw (lv_sub hl [0, 1, 2, 3, 4] rfl)
  | succ n ih =>
    intro k ls H locs hk hw hl
    have hkN : k < 8 := by omega
    refine lv_iload hx hb dMO_version_24 (lv_at hl 4 rfl) ?_
    refine lv_bipush (v := 9) hx hb dMO_version_26 (by decide) ?_
    refine lv_icmp_ge (tgt := 63) hx hb dMO_version_28 (by decide) (fun h28 => absurd h28 (nI_ge (b := 9) (by omega) (by decide))) (fun h28 => ?_)
    refine lv_aload_n hx hb dMO_version_31 rfl (lv_at hl 0 rfl) ?_
    refine x_get S hw (C := RMO) (T := TMO) (N := 23) inMO 0 rfl rfl 10 (by decide) xh_2_155 (v := .ref mG) rfl dMO_version_32 ?_
    refine lv_bipush (v := 9) hx hb dMO_version_35 (by decide) ?_
    refine lv_iload_n hx hb dMO_version_37 rfl (lv_at hl 1 rfl) ?_
    refine lv_imul hx hb dMO_version_38 ?_
    refine lv_iload hx hb dMO_version_39 (lv_at hl 4 rfl) ?_
    refine lv_iadd hx hb dMO_version_41 ?_
    refine x_topi (y := nI (9 * k0 + (k + 1))) (ix9 _ _) ?_
    refine x_zald S hw 3 1 rfl rfl (j := (9 * k0 + (k + 1))) (vp_in_nI (by omega) (by omega)) (nI_clamp (by omega)) dMO_version_42 ?_
    refine lv_if_eq (tgt := 55) hx hb dMO_version_43 (by decide) (fun h43 => ?_) (fun h43 => ?_)
    · skip
      refine lv_iload_n hx hb dMO_version_55 rfl (lv_at hl 3 rfl) ?_
      refine lv_istore_n (lv' := [(3, .int (nI (gsF gg k0 k))), (0, .ref g), (1, .int (nI k0)), (2, .int 2), (4, .int (nI (k + 1)))]) hx hb dMO_version_56 rfl hl (by decide) rfl (fun ls hl => ?_)
      refine lv_iinc (v := nI ((k + 1) + 1)) (lv' := [(4, .int (nI ((k + 1) + 1))), (3, .int (nI (gsF gg k0 k))), (0, .ref g), (1, .int (nI k0)), (2, .int 2)]) hx hb dMO_version_57 hl (k := 4) rfl ((nI_succ _).symm) (by decide) rfl (fun ls hl => ?_)
      refine lv_goto (tgt := 24) hx hb dMO_version_60 (by decide) ?_
      have e0 : nI (gsF gg k0 (k + 1)) = nI (gsF gg k0 k) := by simp only [gsF, if_pos h43]
      refine ih (k + 1) ls H locs (by omega) ?_ ?_
      · exact hw
      · rw [e0]; exact lv_sub hl [2, 3, 4, 1, 0] rfl
    refine lv_iload_n hx hb dMO_version_46 rfl (lv_at hl 3 rfl) ?_
    refine lv_iconst (v := 1) hx hb dMO_version_47 (by decide) ?_
    refine lv_iload hx hb dMO_version_48 (lv_at hl 4 rfl) ?_
    refine lv_ishl hx hb dMO_version_50 ?_
    refine lv_ior hx hb dMO_version_51 ?_
    refine x_topi (y := nI (gsF gg k0 k ||| 2 ^ (k + 1))) (or_bit _ (by omega)) ?_
    refine lv_goto (tgt := 56) hx hb dMO_version_52 (by decide) ?_
    refine lv_istore_n (lv' := [(3, .int (nI (gsF gg k0 k ||| 2 ^ (k + 1)))), (0, .ref g), (1, .int (nI k0)), (2, .int 2), (4, .int (nI (k + 1)))]) hx hb dMO_version_56 rfl hl (by decide) rfl (fun ls hl => ?_)
    refine lv_iinc (v := nI ((k + 1) + 1)) (lv' := [(4, .int (nI ((k + 1) + 1))), (3, .int (nI (gsF gg k0 k ||| 2 ^ (k + 1)))), (0, .ref g), (1, .int (nI k0)), (2, .int 2)]) hx hb dMO_version_57 hl (k := 4) rfl ((nI_succ _).symm) (by decide) rfl (fun ls hl => ?_)
    refine lv_goto (tgt := 24) hx hb dMO_version_60 (by decide) ?_
    have e0 : nI (gsF gg k0 (k + 1)) = nI (gsF gg k0 k ||| 2 ^ (k + 1)) := by simp only [gsF, if_neg h43]
    refine ih (k + 1) ls H locs (by omega) ?_ ?_
    · exact hw
    · rw [e0]; exact lv_sub hl [2, 3, 4, 1, 0] rfl

set_option maxHeartbeats 4000000 in
set_option maxRecDepth 100000 in
theorem m_ver_2 (l : Launch) (D : va_G) (cI cZ cV : ClassId) (g : Nat) (mP : Nat) (mS : Nat) (mK : Nat) (mL : Nat) (mT : Nat) (mZ : Nat) (mD : Nat) (mH : Nat) (mG : Nat) (mC : Nat) (m1 : Nat) (m2 : Nat) (m3 : Nat) (m4 : Nat) (mB : Nat) (mX : Nat) (mY : Nat) (cash : Int32) (cuts : Int32) (lin : Int32) (siz : Int32) (ctr : Int32) (n1 : Nat) (k0 : Nat) (tt : Nat → Int32) (zz : Nat → Int32) (gg : Nat → Int32) (hk : k0 < n1 ∧ n1 ≤ 8) : XI l yMO_version cMO_version 5 (some .int) D (xT3 cI cZ cV) 1 0 0 [.ref g, .int (nI k0), .int 2] [(g, .inr (6, [.ref mP, .int cash, .int (nI n1), .ref mS, .ref mK, .ref mL, .ref mT, .ref mZ, .ref mD, .ref mH, .ref mG, .ref mC, .int cuts, .int lin, .ref m1, .ref m2, .ref m3, .ref m4, .ref mB, .int siz, .int ctr, .ref mX, .ref mY])), (mT, .inl (cI, 8, .inl tt)), (mZ, .inl (cI, 8, .inl zz)), (mG, .inl (cZ, 72, .inl gg))] (fun r u => r = 16 * tt k0 + zz k0 ∧ u = [(g, .inr (6, [.ref mP, .int cash, .int (nI n1), .ref mS, .ref mK, .ref mL, .ref mT, .ref mZ, .ref mD, .ref mH, .ref mG, .ref mC, .int cuts, .int lin, .ref m1, .ref m2, .ref m3, .ref m4, .ref mB, .int siz, .int ctr, .ref mX, .ref mY])), (mT, .inl (cI, 8, .inl tt)), (mZ, .inl (cI, 8, .inl zz)), (mG, .inl (cZ, 72, .inl gg))]) := by
  intro sz
  refine x_ofW (Qc := fun A => va_Qi _ (xB D A) A) sz (by decide) (Nat.le_of_ble_eq_true rfl) ?_
  intro p e s m args below meth c A ls S hr hlk hnm hw hl
  obtain ⟨hx, hb, hml, hown, hts⟩ := id S
  have hl : lv_has ls 5 [(0, .ref g), (1, .int (nI k0)), (2, .int 2)] := hl
  refine lv_aload_n hx hb dMO_version_0 rfl (lv_at hl 0 rfl) ?_
  refine lv_iload_n hx hb dMO_version_1 rfl (lv_at hl 1 rfl) ?_
  refine x_calliD (ws' := [(g, .inr (6, [.ref mP, .int cash, .int (nI n1), .ref mS, .ref mK, .ref mL, .ref mT, .ref mZ, .ref mD, .ref mH, .ref mG, .ref mC, .int cuts, .int lin, .ref m1, .ref m2, .ref m3, .ref m4, .ref mB, .int siz, .int ctr, .ref mX, .ref mY])), (mT, .inl (cI, 8, .inl tt)), (mZ, .inl (cI, 8, .inl zz)), (mG, .inl (cZ, 72, .inl gg))]) hw [0] rfl rfl (x_runV (n := 1) (rest := []) (As := [.int (nI k0)]) S hw (m_none_n l D cI cZ cV g mP mS mK mL mT mZ mD mH mG mC m1 m2 m3 m4 mB mX mY cash cuts lin siz ctr n1 k0 hk _) xh_3_19 xh_3_16 xh_3_18 xsel_MO_none xh_1_6 (by decide +kernel) ⟨by decide, by decide⟩ [0] rfl rfl (ci := 6) (q0 := 0) rfl rfl rfl hl.1 rfl (Nat.le_of_ble_eq_true rfl) dMO_version_2 ⟨by decide, by decide⟩) rfl rfl (fun H locs hw => ?_)
  refine lv_if_ne (tgt := 17) hx hb dMO_version_5 (by decide) (fun h5 => absurd rfl h5) (fun h5 => ?_)
  refine lv_iload_n hx hb dMO_version_8 rfl (lv_at hl 2 rfl) ?_
  refine lv_if_lt (tgt := 17) hx hb dMO_version_9 (by decide) (fun h9 => absurd h9 (by decide)) (fun h9 => ?_)
  refine lv_iload_n hx hb dMO_version_12 rfl (lv_at hl 2 rfl) ?_
  refine lv_iconst (v := 3) hx hb dMO_version_13 (by decide) ?_
  refine lv_icmp_le (tgt := 19) hx hb dMO_version_14 (by decide) (fun h14 => ?_) (fun h14 => absurd (by decide) h14)
  refine lv_iconst (v := 0) hx hb dMO_version_19 (by decide) ?_
  refine lv_istore_n (lv' := [(3, .int 0), (0, .ref g), (1, .int (nI k0)), (2, .int 2)]) hx hb dMO_version_20 rfl hl (by decide) rfl (fun ls hl => ?_)
  refine lv_iconst (v := 1) hx hb dMO_version_21 (by decide) ?_
  refine lv_istore (lv' := [(4, .int 1), (3, .int 0), (0, .ref g), (1, .int (nI k0)), (2, .int 2)]) hx hb dMO_version_22 hl (by decide) rfl (fun ls hl => ?_)
  refine ml_ver_2 rfl ⟨rfl, rfl⟩ S g mP mS mK mL mT mZ mD mH mG mC m1 m2 m3 m4 mB mX mY cash (nI n1) cuts lin siz ctr tt zz gg k0 (by omega) (fun ls H locs hw hl => ?_) 8 0 ls _ _ (Nat.zero_add _) hw (lv_sub hl [2, 3, 4, 1, 0] rfl)
  refine lv_iload_n hx hb dMO_version_63 rfl (lv_at hl 2 rfl) ?_
  refine lv_if_ne (tgt := 76) hx hb dMO_version_64 (by decide) (fun h64 => ?_) (fun h64 => absurd h64 (by decide))
  refine lv_iload_n hx hb dMO_version_76 rfl (lv_at hl 2 rfl) ?_
  refine lv_iconst (v := 1) hx hb dMO_version_77 (by decide) ?_
  refine lv_icmp_ne (tgt := 98) hx hb dMO_version_78 (by decide) (fun h78 => ?_) (fun h78 => absurd h78 (by decide))
  refine lv_iload_n hx hb dMO_version_98 rfl (lv_at hl 2 rfl) ?_
  refine lv_iconst (v := 2) hx hb dMO_version_99 (by decide) ?_
  refine lv_icmp_ne (tgt := 122) hx hb dMO_version_100 (by decide) (fun h100 => absurd rfl h100) (fun h100 => ?_)
  refine lv_bipush (v := 16) hx hb dMO_version_103 (by decide) ?_
  refine lv_aload_n hx hb dMO_version_105 rfl (lv_at hl 0 rfl) ?_
  refine x_get S hw (C := RMO) (T := TMO) (N := 23) inMO 0 rfl rfl 6 (by decide) xh_2_151 (v := .ref mT) rfl dMO_version_106 ?_
  refine lv_iload_n hx hb dMO_version_109 rfl (lv_at hl 1 rfl) ?_
  refine x_iald S hw 1 0 rfl rfl (j := k0) (vp_in_nI (by omega) (by omega)) (nI_clamp (by omega)) dMO_version_110 ?_
  refine lv_imul hx hb dMO_version_111 ?_
  refine lv_aload_n hx hb dMO_version_112 rfl (lv_at hl 0 rfl) ?_
  refine x_get S hw (C := RMO) (T := TMO) (N := 23) inMO 0 rfl rfl 7 (by decide) xh_2_152 (v := .ref mZ) rfl dMO_version_113 ?_
  refine lv_iload_n hx hb dMO_version_116 rfl (lv_at hl 1 rfl) ?_
  refine x_iald S hw 2 0 rfl rfl (j := k0) (vp_in_nI (by omega) (by omega)) (nI_clamp (by omega)) dMO_version_117 ?_
  refine lv_iadd hx hb dMO_version_118 ?_
  refine lv_goto (tgt := 123) hx hb dMO_version_119 (by decide) ?_
  exact x_iret S hr hlk hw (by decide) (by decide) (⟨rfl, rfl⟩) dMO_version_123

set_option maxHeartbeats 4000000 in
set_option maxRecDepth 100000 in
theorem ml_ver_3 {p : Program} {l : Launch} {e : Env} {s : State} {m : MethodId} {args : Array Value} {below : List Frame} {meth : Method} {c : Code} {Q : State → Prop} {D : va_G} {A : Nat → Prop} {cI cZ cV : ClassId} {H0 : Heap} {R : Room} {cells slots : Nat} (hR : R = (xR 1 0 0)) (hC : cells = 0 ∧ slots = 0) (S : CallFix p m c cMO_version 5 s args xAll "EscrowedVersionsModel") (g : Nat) (mP : Nat) (mS : Nat) (mK : Nat) (mL : Nat) (mT : Nat) (mZ : Nat) (mD : Nat) (mH : Nat) (mG : Nat) (mC : Nat) (m1 : Nat) (m2 : Nat) (m3 : Nat) (m4 : Nat) (mB : Nat) (mX : Nat) (mY : Nat) (cash : Int32) (cnt : Int32) (cuts : Int32) (lin : Int32) (siz : Int32) (ctr : Int32) (gg : Nat → Int32) (k0 : Nat) (hk0 : k0 < 8)
    (kk : ∀ (ls : Array Slot) (H : Heap) (locs : List Loc), xW D (xT3 cI cZ cV) A H0 H locs [(g, .inr (6, [.ref mP, .int cash, .int cnt, .ref mS, .ref mK, .ref mL, .ref mT, .ref mZ, .ref mD, .ref mH, .ref mG, .ref mC, .int cuts, .int lin, .ref m1, .ref m2, .ref m3, .ref m4, .ref mB, .int siz, .int ctr, .ref mX, .ref mY])), (mG, .inl (cZ, 72, .inl gg))] s → lv_has ls 5 [(0, .ref g), (1, .int (nI k0)), (2, .int 3), (3, .int (nI (gsF gg k0 8))), (4, .int (nI (8 + 1)))] → W p l e R s m args below meth c H locs cells slots Q (F0 m 63 ls [])) :
    ∀ (n k : Nat) (ls : Array Slot) (H : Heap) (locs : List Loc), k + n = 8 → xW D (xT3 cI cZ cV) A H0 H locs [(g, .inr (6, [.ref mP, .int cash, .int cnt, .ref mS, .ref mK, .ref mL, .ref mT, .ref mZ, .ref mD, .ref mH, .ref mG, .ref mC, .int cuts, .int lin, .ref m1, .ref m2, .ref m3, .ref m4, .ref mB, .int siz, .int ctr, .ref mX, .ref mY])), (mG, .inl (cZ, 72, .inl gg))] s → lv_has ls 5 [(0, .ref g), (1, .int (nI k0)), (2, .int 3), (3, .int (nI (gsF gg k0 k))), (4, .int (nI (k + 1)))] → W p l e R s m args below meth c H locs cells slots Q (F0 m 24 ls []) := by
  obtain ⟨hx, hb, hml, hown, hts⟩ := id S
  subst hR
  obtain ⟨rfl, rfl⟩ := hC
  intro n
  induction n with
  | zero =>
    intro k ls H locs hk hw hl
    obtain rfl : 8 = k := by omega
    refine lv_iload hx hb dMO_version_24 (lv_at hl 4 rfl) ?_
    refine lv_bipush (v := 9) hx hb dMO_version_26 (by decide) ?_
    refine lv_icmp_ge (tgt := 63) hx hb dMO_version_28 (by decide) (fun h28 => ?_) (fun h28 => absurd (by decide +kernel) h28)
    exact kk ls H locs hw (lv_sub hl [0, 1, 2, 3, 4] rfl)
  | succ n ih =>
    intro k ls H locs hk hw hl
    have hkN : k < 8 := by omega
    refine lv_iload hx hb dMO_version_24 (lv_at hl 4 rfl) ?_
    refine lv_bipush (v := 9) hx hb dMO_version_26 (by decide) ?_
    refine lv_icmp_ge (tgt := 63) hx hb dMO_version_28 (by decide) (fun h28 => absurd h28 (nI_ge (b := 9) (by omega) (by decide))) (fun h28 => ?_)
    refine lv_aload_n hx hb dMO_version_31 rfl (lv_at hl 0 rfl) ?_
    refine x_get S hw (C := RMO) (T := TMO) (N := 23) inMO 0 rfl rfl 10 (by decide) xh_2_155 (v := .ref mG) rfl dMO_version_32 ?_
    refine lv_bipush (v := 9) hx hb dMO_version_35 (by decide) ?_
    refine lv_iload_n hx hb dMO_version_37 rfl (lv_at hl 1 rfl) ?_
    refine lv_imul hx hb dMO_version_38 ?_
    refine lv_iload hx hb dMO_version_39 (lv_at hl 4 rfl) ?_
    refine lv_iadd hx hb dMO_version_41 ?_
    refine x_topi (y := nI (9 * k0 + (k + 1))) (ix9 _ _) ?_
    refine x_zald S hw 1 1 rfl rfl (j := (9 * k0 + (k + 1))) (vp_in_nI (by omega) (by omega)) (nI_clamp (by omega)) dMO_version_42 ?_
    refine lv_if_eq (tgt := 55) hx hb dMO_version_43 (by decide) (fun h43 => ?_) (fun h43 => ?_)
    · skip
      refine lv_iload_n hx hb dMO_version_55 rfl (lv_at hl 3 rfl) ?_
      refine lv_istore_n (lv' := [(3, .int (nI (gsF gg k0 k))), (0, .ref g), (1, .int (nI k0)), (2, .int 3), (4, .int (nI (k + 1)))]) hx hb dMO_version_56 rfl hl (by decide) rfl (fun ls hl => ?_)
      refine lv_iinc (v := nI ((k + 1) + 1)) (lv' := [(4, .int (nI ((k + 1) + 1))), (3, .int (nI (gsF gg k0 k))), (0, .ref g), (1, .int (nI k0)), (2, .int 3)]) hx hb dMO_version_57 hl (k := 4) rfl ((nI_succ _).symm) (by decide) rfl (fun ls hl => ?_)
      refine lv_goto (tgt := 24) hx hb dMO_version_60 (by decide) ?_
      have e0 : nI (gsF gg k0 (k + 1)) = nI (gsF gg k0 k) := by simp only [gsF, if_pos h43]
      refine ih (k + 1) ls H locs (by omega) ?_ ?_
      · exact hw
      · rw [e0]; exact lv_sub hl [2, 3, 4, 1, 0] rfl
    refine lv_iload_n hx hb dMO_version_46 rfl (lv_at hl 3 rfl) ?_
    refine lv_iconst (v := 1) hx hb dMO_version_47 (by decide) ?_
    refine lv_iload hx hb dMO_version_48 (lv_at hl 4 rfl) ?_
    refine lv_ishl hx hb dMO_version_50 ?_
    refine lv_ior hx hb dMO_version_51 ?_
    refine x_topi (y := nI (gsF gg k0 k ||| 2 ^ (k + 1))) (or_bit _ (by omega)) ?_
    refine lv_goto (tgt := 56) hx hb dMO_version_52 (by decide) ?_
    refine lv_istore_n (lv' := [(3, .int (nI (gsF gg k0 k ||| 2 ^ (k + 1)))), (0, .ref g), (1, .int (nI k0)), (2, .int 3), (4, .int (nI (k + 1)))]) hx hb dMO_version_56 rfl hl (by decide) rfl (fun ls hl => ?_)
    refine lv_iinc (v := nI ((k + 1) + 1)) (lv' := [(4, .int (nI ((k + 1) + 1))), (3, .int (nI (gsF gg k0 k ||| 2 ^ (k + 1)))), (0, .ref g), (1, .int (nI k0)), (2, .int 3)]) hx hb dMO_version_57 hl (k := 4) rfl ((nI_succ _).symm) (by decide) rfl (fun ls hl => ?_)
    refine lv_goto (tgt := 24) hx hb dMO_version_60 (by decide) ?_
    have e0 : nI (gsF gg k0 (k + 1)) = nI (gsF gg k0 k ||| 2 ^ (k + 1)) := by simp only [gsF, if_neg h43]
    refine ih (k + 1) ls H locs (by omega) ?_ ?_
    · exact hw
    · rw [e0]; exact lv_sub hl [2, 3, 4, 1, 0] rfl

set_option maxHeartbeats 4000000 in
set_option maxRecDepth 100000 in
theorem m_ver_3 (l : Launch) (D : va_G) (cI cZ cV : ClassId) (g : Nat) (mP : Nat) (mS : Nat) (mK : Nat) (mL : Nat) (mT : Nat) (mZ : Nat) (mD : Nat) (mH : Nat) (mG : Nat) (mC : Nat) (m1 : Nat) (m2 : Nat) (m3 : Nat) (m4 : Nat) (mB : Nat) (mX : Nat) (mY : Nat) (cash : Int32) (cuts : Int32) (lin : Int32) (siz : Int32) (ctr : Int32) (n1 : Nat) (k0 : Nat) (gg : Nat → Int32) (hk : k0 < n1 ∧ n1 ≤ 8) : XI l yMO_version cMO_version 5 (some .int) D (xT3 cI cZ cV) 1 0 0 [.ref g, .int (nI k0), .int 3] [(g, .inr (6, [.ref mP, .int cash, .int (nI n1), .ref mS, .ref mK, .ref mL, .ref mT, .ref mZ, .ref mD, .ref mH, .ref mG, .ref mC, .int cuts, .int lin, .ref m1, .ref m2, .ref m3, .ref m4, .ref mB, .int siz, .int ctr, .ref mX, .ref mY])), (mG, .inl (cZ, 72, .inl gg))] (fun r u => r = nI (gsF gg k0 8) ∧ u = [(g, .inr (6, [.ref mP, .int cash, .int (nI n1), .ref mS, .ref mK, .ref mL, .ref mT, .ref mZ, .ref mD, .ref mH, .ref mG, .ref mC, .int cuts, .int lin, .ref m1, .ref m2, .ref m3, .ref m4, .ref mB, .int siz, .int ctr, .ref mX, .ref mY])), (mG, .inl (cZ, 72, .inl gg))]) := by
  intro sz
  refine x_ofW (Qc := fun A => va_Qi _ (xB D A) A) sz (by decide) (Nat.le_of_ble_eq_true rfl) ?_
  intro p e s m args below meth c A ls S hr hlk hnm hw hl
  obtain ⟨hx, hb, hml, hown, hts⟩ := id S
  have hl : lv_has ls 5 [(0, .ref g), (1, .int (nI k0)), (2, .int 3)] := hl
  refine lv_aload_n hx hb dMO_version_0 rfl (lv_at hl 0 rfl) ?_
  refine lv_iload_n hx hb dMO_version_1 rfl (lv_at hl 1 rfl) ?_
  refine x_calliD (ws' := [(g, .inr (6, [.ref mP, .int cash, .int (nI n1), .ref mS, .ref mK, .ref mL, .ref mT, .ref mZ, .ref mD, .ref mH, .ref mG, .ref mC, .int cuts, .int lin, .ref m1, .ref m2, .ref m3, .ref m4, .ref mB, .int siz, .int ctr, .ref mX, .ref mY])), (mG, .inl (cZ, 72, .inl gg))]) hw [0] rfl rfl (x_runV (n := 1) (rest := []) (As := [.int (nI k0)]) S hw (m_none_n l D cI cZ cV g mP mS mK mL mT mZ mD mH mG mC m1 m2 m3 m4 mB mX mY cash cuts lin siz ctr n1 k0 hk _) xh_3_19 xh_3_16 xh_3_18 xsel_MO_none xh_1_6 (by decide +kernel) ⟨by decide, by decide⟩ [0] rfl rfl (ci := 6) (q0 := 0) rfl rfl rfl hl.1 rfl (Nat.le_of_ble_eq_true rfl) dMO_version_2 ⟨by decide, by decide⟩) rfl rfl (fun H locs hw => ?_)
  refine lv_if_ne (tgt := 17) hx hb dMO_version_5 (by decide) (fun h5 => absurd rfl h5) (fun h5 => ?_)
  refine lv_iload_n hx hb dMO_version_8 rfl (lv_at hl 2 rfl) ?_
  refine lv_if_lt (tgt := 17) hx hb dMO_version_9 (by decide) (fun h9 => absurd h9 (by decide)) (fun h9 => ?_)
  refine lv_iload_n hx hb dMO_version_12 rfl (lv_at hl 2 rfl) ?_
  refine lv_iconst (v := 3) hx hb dMO_version_13 (by decide) ?_
  refine lv_icmp_le (tgt := 19) hx hb dMO_version_14 (by decide) (fun h14 => ?_) (fun h14 => absurd (by decide) h14)
  refine lv_iconst (v := 0) hx hb dMO_version_19 (by decide) ?_
  refine lv_istore_n (lv' := [(3, .int 0), (0, .ref g), (1, .int (nI k0)), (2, .int 3)]) hx hb dMO_version_20 rfl hl (by decide) rfl (fun ls hl => ?_)
  refine lv_iconst (v := 1) hx hb dMO_version_21 (by decide) ?_
  refine lv_istore (lv' := [(4, .int 1), (3, .int 0), (0, .ref g), (1, .int (nI k0)), (2, .int 3)]) hx hb dMO_version_22 hl (by decide) rfl (fun ls hl => ?_)
  refine ml_ver_3 rfl ⟨rfl, rfl⟩ S g mP mS mK mL mT mZ mD mH mG mC m1 m2 m3 m4 mB mX mY cash (nI n1) cuts lin siz ctr gg k0 (by omega) (fun ls H locs hw hl => ?_) 8 0 ls _ _ (Nat.zero_add _) hw (lv_sub hl [2, 3, 4, 1, 0] rfl)
  refine lv_iload_n hx hb dMO_version_63 rfl (lv_at hl 2 rfl) ?_
  refine lv_if_ne (tgt := 76) hx hb dMO_version_64 (by decide) (fun h64 => ?_) (fun h64 => absurd h64 (by decide))
  refine lv_iload_n hx hb dMO_version_76 rfl (lv_at hl 2 rfl) ?_
  refine lv_iconst (v := 1) hx hb dMO_version_77 (by decide) ?_
  refine lv_icmp_ne (tgt := 98) hx hb dMO_version_78 (by decide) (fun h78 => ?_) (fun h78 => absurd h78 (by decide))
  refine lv_iload_n hx hb dMO_version_98 rfl (lv_at hl 2 rfl) ?_
  refine lv_iconst (v := 2) hx hb dMO_version_99 (by decide) ?_
  refine lv_icmp_ne (tgt := 122) hx hb dMO_version_100 (by decide) (fun h100 => ?_) (fun h100 => absurd h100 (by decide))
  refine lv_iload_n hx hb dMO_version_122 rfl (lv_at hl 3 rfl) ?_
  exact x_iret S hr hlk hw (by decide) (by decide) (⟨rfl, rfl⟩) dMO_version_123

set_option maxHeartbeats 4000000 in
set_option maxRecDepth 100000 in
theorem m_versions (l : Launch) (D : va_G) (cI cZ cV : ClassId) (g : Nat) (mP : Nat) (mS : Nat) (mK : Nat) (mL : Nat) (mT : Nat) (mZ : Nat) (mD : Nat) (mH : Nat) (mG : Nat) (mC : Nat) (m1 : Nat) (m2 : Nat) (m3 : Nat) (m4 : Nat) (mB : Nat) (mX : Nat) (mY : Nat) (cash : Int32) (cnt : Int32) (cuts : Int32) (lin : Int32) (siz : Int32) (ctr : Int32) : XI l yMO_versions cMO_versions 1 (some .int) D (xT3 cI cZ cV) 0 0 0 [.ref g] [(g, .inr (6, [.ref mP, .int cash, .int cnt, .ref mS, .ref mK, .ref mL, .ref mT, .ref mZ, .ref mD, .ref mH, .ref mG, .ref mC, .int cuts, .int lin, .ref m1, .ref m2, .ref m3, .ref m4, .ref mB, .int siz, .int ctr, .ref mX, .ref mY]))] (fun r u => r = cnt ∧ u = [(g, .inr (6, [.ref mP, .int cash, .int cnt, .ref mS, .ref mK, .ref mL, .ref mT, .ref mZ, .ref mD, .ref mH, .ref mG, .ref mC, .int cuts, .int lin, .ref m1, .ref m2, .ref m3, .ref m4, .ref mB, .int siz, .int ctr, .ref mX, .ref mY]))]) := by
  intro sz
  refine x_ofW (Qc := fun A => va_Qi _ (xB D A) A) sz (by decide) (Nat.le_of_ble_eq_true rfl) ?_
  intro p e s m args below meth c A ls S hr hlk hnm hw hl
  obtain ⟨hx, hb, hml, hown, hts⟩ := id S
  have hl : lv_has ls 1 [(0, .ref g)] := hl
  refine lv_aload_n hx hb dMO_versions_0 rfl (lv_at hl 0 rfl) ?_
  refine x_get S hw (C := RMO) (T := TMO) (N := 23) inMO 0 rfl rfl 2 (by decide) xh_2_147 (v := .int cnt) rfl dMO_versions_1 ?_
  exact x_iret S hr hlk hw (by decide) (by decide) (⟨rfl, rfl⟩) dMO_versions_4

set_option maxHeartbeats 4000000 in
set_option maxRecDepth 100000 in
theorem m_log_no (l : Launch) (D : va_G) (cI cZ cV : ClassId) (g : Nat) (mP : Nat) (mS : Nat) (mK : Nat) (mL : Nat) (mT : Nat) (mZ : Nat) (mD : Nat) (mH : Nat) (mG : Nat) (mC : Nat) (m1 : Nat) (m2 : Nat) (m3 : Nat) (m4 : Nat) (mB : Nat) (mX : Nat) (mY : Nat) (cash : Int32) (cnt : Int32) (cuts : Int32) (lin : Int32) (siz : Int32) (ctr : Int32) (k : Int32) (t : Int32) (hv : k < 0 ∨ lin ≤ k) : XI l yMO_log cMO_log 3 (some .int) D (xT3 cI cZ cV) 0 0 0 [.ref g, .int k, .int t] [(g, .inr (6, [.ref mP, .int cash, .int cnt, .ref mS, .ref mK, .ref mL, .ref mT, .ref mZ, .ref mD, .ref mH, .ref mG, .ref mC, .int cuts, .int lin, .ref m1, .ref m2, .ref m3, .ref m4, .ref mB, .int siz, .int ctr, .ref mX, .ref mY]))] (fun r u => r = 0 ∧ u = [(g, .inr (6, [.ref mP, .int cash, .int cnt, .ref mS, .ref mK, .ref mL, .ref mT, .ref mZ, .ref mD, .ref mH, .ref mG, .ref mC, .int cuts, .int lin, .ref m1, .ref m2, .ref m3, .ref m4, .ref mB, .int siz, .int ctr, .ref mX, .ref mY]))]) := by
  intro sz
  refine x_ofW (Qc := fun A => va_Qi _ (xB D A) A) sz (by decide) (Nat.le_of_ble_eq_true rfl) ?_
  intro p e s m args below meth c A ls S hr hlk hnm hw hl
  obtain ⟨hx, hb, hml, hown, hts⟩ := id S
  have hl : lv_has ls 3 [(0, .ref g), (1, .int k), (2, .int t)] := hl
  refine lv_iload_n hx hb dMO_log_0 rfl (lv_at hl 1 rfl) ?_
  refine lv_if_lt (tgt := 12) hx hb dMO_log_1 (by decide) (fun h1 => ?_) (fun h1 => ?_)
  · skip
    refine lv_iconst (v := 0) hx hb dMO_log_12 (by decide) ?_
    exact x_iret S hr hlk hw (by decide) (by decide) (⟨rfl, rfl⟩) dMO_log_13
  refine lv_iload_n hx hb dMO_log_4 rfl (lv_at hl 1 rfl) ?_
  refine lv_aload_n hx hb dMO_log_5 rfl (lv_at hl 0 rfl) ?_
  refine x_get S hw (C := RMO) (T := TMO) (N := 23) inMO 0 rfl rfl 13 (by decide) xh_2_158 (v := .int lin) rfl dMO_log_6 ?_
  refine lv_icmp_lt (tgt := 14) hx hb dMO_log_9 (by decide) (fun h9 => ?_) (fun h9 => ?_)
  · skip
    exact False.elim (by rcases hv with h | h; exact h1 h; exact Int32.not_lt.mpr h h9)
  refine lv_iconst (v := 0) hx hb dMO_log_12 (by decide) ?_
  exact x_iret S hr hlk hw (by decide) (by decide) (⟨rfl, rfl⟩) dMO_log_13

set_option maxHeartbeats 4000000 in
set_option maxRecDepth 100000 in
theorem m_log_out (l : Launch) (D : va_G) (cI cZ cV : ClassId) (g : Nat) (mP : Nat) (mS : Nat) (mK : Nat) (mL : Nat) (mT : Nat) (mZ : Nat) (mD : Nat) (mH : Nat) (mG : Nat) (mC : Nat) (m1 : Nat) (m2 : Nat) (m3 : Nat) (m4 : Nat) (mB : Nat) (mX : Nat) (mY : Nat) (cash : Int32) (cnt : Int32) (cuts : Int32) (siz : Int32) (ctr : Int32) (l0 : Nat) (j : Nat) (t : Int32) (hj : j < l0 ∧ l0 ≤ 80) (ht : ¬ t = 0 ∧ ¬ t = 1 ∧ ¬ t = 2 ∧ ¬ t = 3) : XI l yMO_log cMO_log 3 (some .int) D (xT3 cI cZ cV) 0 0 0 [.ref g, .int (nI j), .int t] [(g, .inr (6, [.ref mP, .int cash, .int cnt, .ref mS, .ref mK, .ref mL, .ref mT, .ref mZ, .ref mD, .ref mH, .ref mG, .ref mC, .int cuts, .int (nI l0), .ref m1, .ref m2, .ref m3, .ref m4, .ref mB, .int siz, .int ctr, .ref mX, .ref mY]))] (fun r u => r = 0 ∧ u = [(g, .inr (6, [.ref mP, .int cash, .int cnt, .ref mS, .ref mK, .ref mL, .ref mT, .ref mZ, .ref mD, .ref mH, .ref mG, .ref mC, .int cuts, .int (nI l0), .ref m1, .ref m2, .ref m3, .ref m4, .ref mB, .int siz, .int ctr, .ref mX, .ref mY]))]) := by
  intro sz
  refine x_ofW (Qc := fun A => va_Qi _ (xB D A) A) sz (by decide) (Nat.le_of_ble_eq_true rfl) ?_
  intro p e s m args below meth c A ls S hr hlk hnm hw hl
  obtain ⟨hx, hb, hml, hown, hts⟩ := id S
  have hl : lv_has ls 3 [(0, .ref g), (1, .int (nI j)), (2, .int t)] := hl
  refine lv_iload_n hx hb dMO_log_0 rfl (lv_at hl 1 rfl) ?_
  refine lv_if_lt (tgt := 12) hx hb dMO_log_1 (by decide) (fun h1 => absurd h1 (nI_pos (by omega))) (fun h1 => ?_)
  refine lv_iload_n hx hb dMO_log_4 rfl (lv_at hl 1 rfl) ?_
  refine lv_aload_n hx hb dMO_log_5 rfl (lv_at hl 0 rfl) ?_
  refine x_get S hw (C := RMO) (T := TMO) (N := 23) inMO 0 rfl rfl 13 (by decide) xh_2_158 (v := .int (nI l0)) rfl dMO_log_6 ?_
  refine lv_icmp_lt (tgt := 14) hx hb dMO_log_9 (by decide) (fun h9 => ?_) (fun h9 => absurd (nI_lt (by omega) (by omega)) h9)
  refine lv_iload_n hx hb dMO_log_14 rfl (lv_at hl 2 rfl) ?_
  refine lv_if_ne (tgt := 27) hx hb dMO_log_15 (by decide) (fun h15 => ?_) (fun h15 => absurd h15 ht.1)
  refine lv_iload_n hx hb dMO_log_27 rfl (lv_at hl 2 rfl) ?_
  refine lv_iconst (v := 1) hx hb dMO_log_28 (by decide) ?_
  refine lv_icmp_ne (tgt := 41) hx hb dMO_log_29 (by decide) (fun h29 => ?_) (fun h29 => absurd h29 ht.2.1)
  refine lv_iload_n hx hb dMO_log_41 rfl (lv_at hl 2 rfl) ?_
  refine lv_iconst (v := 2) hx hb dMO_log_42 (by decide) ?_
  refine lv_icmp_ne (tgt := 55) hx hb dMO_log_43 (by decide) (fun h43 => ?_) (fun h43 => absurd h43 ht.2.2.1)
  refine lv_iload_n hx hb dMO_log_55 rfl (lv_at hl 2 rfl) ?_
  refine lv_iconst (v := 3) hx hb dMO_log_56 (by decide) ?_
  refine lv_icmp_ne (tgt := 69) hx hb dMO_log_57 (by decide) (fun h57 => ?_) (fun h57 => absurd h57 ht.2.2.2)
  refine lv_iconst (v := 0) hx hb dMO_log_69 (by decide) ?_
  exact x_iret S hr hlk hw (by decide) (by decide) (⟨rfl, rfl⟩) dMO_log_70

set_option maxHeartbeats 4000000 in
set_option maxRecDepth 100000 in
theorem m_log_0 (l : Launch) (D : va_G) (cI cZ cV : ClassId) (g : Nat) (mP : Nat) (mS : Nat) (mK : Nat) (mL : Nat) (mT : Nat) (mZ : Nat) (mD : Nat) (mH : Nat) (mG : Nat) (mC : Nat) (m1 : Nat) (m2 : Nat) (m3 : Nat) (m4 : Nat) (mB : Nat) (mX : Nat) (mY : Nat) (cash : Int32) (cnt : Int32) (cuts : Int32) (siz : Int32) (ctr : Int32) (l0 : Nat) (j : Nat) (ks : Nat → Int32) (hj : j < l0 ∧ l0 ≤ 80) : XI l yMO_log cMO_log 3 (some .int) D (xT3 cI cZ cV) 0 0 0 [.ref g, .int (nI j), .int 0] [(g, .inr (6, [.ref mP, .int cash, .int cnt, .ref mS, .ref mK, .ref mL, .ref mT, .ref mZ, .ref mD, .ref mH, .ref mG, .ref mC, .int cuts, .int (nI l0), .ref m1, .ref m2, .ref m3, .ref m4, .ref mB, .int siz, .int ctr, .ref mX, .ref mY])), (m1, .inl (cI, 80, .inl ks))] (fun r u => r = ks j ∧ u = [(g, .inr (6, [.ref mP, .int cash, .int cnt, .ref mS, .ref mK, .ref mL, .ref mT, .ref mZ, .ref mD, .ref mH, .ref mG, .ref mC, .int cuts, .int (nI l0), .ref m1, .ref m2, .ref m3, .ref m4, .ref mB, .int siz, .int ctr, .ref mX, .ref mY])), (m1, .inl (cI, 80, .inl ks))]) := by
  intro sz
  refine x_ofW (Qc := fun A => va_Qi _ (xB D A) A) sz (by decide) (Nat.le_of_ble_eq_true rfl) ?_
  intro p e s m args below meth c A ls S hr hlk hnm hw hl
  obtain ⟨hx, hb, hml, hown, hts⟩ := id S
  have hl : lv_has ls 3 [(0, .ref g), (1, .int (nI j)), (2, .int 0)] := hl
  refine lv_iload_n hx hb dMO_log_0 rfl (lv_at hl 1 rfl) ?_
  refine lv_if_lt (tgt := 12) hx hb dMO_log_1 (by decide) (fun h1 => absurd h1 (nI_pos (by omega))) (fun h1 => ?_)
  refine lv_iload_n hx hb dMO_log_4 rfl (lv_at hl 1 rfl) ?_
  refine lv_aload_n hx hb dMO_log_5 rfl (lv_at hl 0 rfl) ?_
  refine x_get S hw (C := RMO) (T := TMO) (N := 23) inMO 0 rfl rfl 13 (by decide) xh_2_158 (v := .int (nI l0)) rfl dMO_log_6 ?_
  refine lv_icmp_lt (tgt := 14) hx hb dMO_log_9 (by decide) (fun h9 => ?_) (fun h9 => absurd (nI_lt (by omega) (by omega)) h9)
  refine lv_iload_n hx hb dMO_log_14 rfl (lv_at hl 2 rfl) ?_
  refine lv_if_ne (tgt := 27) hx hb dMO_log_15 (by decide) (fun h15 => absurd rfl h15) (fun h15 => ?_)
  refine lv_aload_n hx hb dMO_log_18 rfl (lv_at hl 0 rfl) ?_
  refine x_get S hw (C := RMO) (T := TMO) (N := 23) inMO 0 rfl rfl 14 (by decide) xh_2_159 (v := .ref m1) rfl dMO_log_19 ?_
  refine lv_iload_n hx hb dMO_log_22 rfl (lv_at hl 1 rfl) ?_
  refine x_iald S hw 1 0 rfl rfl (j := j) (vp_in_nI (by omega) (by omega)) (nI_clamp (by omega)) dMO_log_23 ?_
  refine lv_goto (tgt := 70) hx hb dMO_log_24 (by decide) ?_
  exact x_iret S hr hlk hw (by decide) (by decide) (⟨rfl, rfl⟩) dMO_log_70

set_option maxHeartbeats 4000000 in
set_option maxRecDepth 100000 in
theorem m_log_1 (l : Launch) (D : va_G) (cI cZ cV : ClassId) (g : Nat) (mP : Nat) (mS : Nat) (mK : Nat) (mL : Nat) (mT : Nat) (mZ : Nat) (mD : Nat) (mH : Nat) (mG : Nat) (mC : Nat) (m1 : Nat) (m2 : Nat) (m3 : Nat) (m4 : Nat) (mB : Nat) (mX : Nat) (mY : Nat) (cash : Int32) (cnt : Int32) (cuts : Int32) (siz : Int32) (ctr : Int32) (l0 : Nat) (j : Nat) (ns : Nat → Int32) (hj : j < l0 ∧ l0 ≤ 80) : XI l yMO_log cMO_log 3 (some .int) D (xT3 cI cZ cV) 0 0 0 [.ref g, .int (nI j), .int 1] [(g, .inr (6, [.ref mP, .int cash, .int cnt, .ref mS, .ref mK, .ref mL, .ref mT, .ref mZ, .ref mD, .ref mH, .ref mG, .ref mC, .int cuts, .int (nI l0), .ref m1, .ref m2, .ref m3, .ref m4, .ref mB, .int siz, .int ctr, .ref mX, .ref mY])), (m2, .inl (cI, 80, .inl ns))] (fun r u => r = ns j ∧ u = [(g, .inr (6, [.ref mP, .int cash, .int cnt, .ref mS, .ref mK, .ref mL, .ref mT, .ref mZ, .ref mD, .ref mH, .ref mG, .ref mC, .int cuts, .int (nI l0), .ref m1, .ref m2, .ref m3, .ref m4, .ref mB, .int siz, .int ctr, .ref mX, .ref mY])), (m2, .inl (cI, 80, .inl ns))]) := by
  intro sz
  refine x_ofW (Qc := fun A => va_Qi _ (xB D A) A) sz (by decide) (Nat.le_of_ble_eq_true rfl) ?_
  intro p e s m args below meth c A ls S hr hlk hnm hw hl
  obtain ⟨hx, hb, hml, hown, hts⟩ := id S
  have hl : lv_has ls 3 [(0, .ref g), (1, .int (nI j)), (2, .int 1)] := hl
  refine lv_iload_n hx hb dMO_log_0 rfl (lv_at hl 1 rfl) ?_
  refine lv_if_lt (tgt := 12) hx hb dMO_log_1 (by decide) (fun h1 => absurd h1 (nI_pos (by omega))) (fun h1 => ?_)
  refine lv_iload_n hx hb dMO_log_4 rfl (lv_at hl 1 rfl) ?_
  refine lv_aload_n hx hb dMO_log_5 rfl (lv_at hl 0 rfl) ?_
  refine x_get S hw (C := RMO) (T := TMO) (N := 23) inMO 0 rfl rfl 13 (by decide) xh_2_158 (v := .int (nI l0)) rfl dMO_log_6 ?_
  refine lv_icmp_lt (tgt := 14) hx hb dMO_log_9 (by decide) (fun h9 => ?_) (fun h9 => absurd (nI_lt (by omega) (by omega)) h9)
  refine lv_iload_n hx hb dMO_log_14 rfl (lv_at hl 2 rfl) ?_
  refine lv_if_ne (tgt := 27) hx hb dMO_log_15 (by decide) (fun h15 => ?_) (fun h15 => absurd h15 (by decide))
  refine lv_iload_n hx hb dMO_log_27 rfl (lv_at hl 2 rfl) ?_
  refine lv_iconst (v := 1) hx hb dMO_log_28 (by decide) ?_
  refine lv_icmp_ne (tgt := 41) hx hb dMO_log_29 (by decide) (fun h29 => absurd rfl h29) (fun h29 => ?_)
  refine lv_aload_n hx hb dMO_log_32 rfl (lv_at hl 0 rfl) ?_
  refine x_get S hw (C := RMO) (T := TMO) (N := 23) inMO 0 rfl rfl 15 (by decide) xh_2_160 (v := .ref m2) rfl dMO_log_33 ?_
  refine lv_iload_n hx hb dMO_log_36 rfl (lv_at hl 1 rfl) ?_
  refine x_iald S hw 1 0 rfl rfl (j := j) (vp_in_nI (by omega) (by omega)) (nI_clamp (by omega)) dMO_log_37 ?_
  refine lv_goto (tgt := 70) hx hb dMO_log_38 (by decide) ?_
  exact x_iret S hr hlk hw (by decide) (by decide) (⟨rfl, rfl⟩) dMO_log_70

set_option maxHeartbeats 4000000 in
set_option maxRecDepth 100000 in
theorem m_log_2 (l : Launch) (D : va_G) (cI cZ cV : ClassId) (g : Nat) (mP : Nat) (mS : Nat) (mK : Nat) (mL : Nat) (mT : Nat) (mZ : Nat) (mD : Nat) (mH : Nat) (mG : Nat) (mC : Nat) (m1 : Nat) (m2 : Nat) (m3 : Nat) (m4 : Nat) (mB : Nat) (mX : Nat) (mY : Nat) (cash : Int32) (cnt : Int32) (cuts : Int32) (siz : Int32) (ctr : Int32) (l0 : Nat) (j : Nat) (ds : Nat → Int32) (hj : j < l0 ∧ l0 ≤ 80) : XI l yMO_log cMO_log 3 (some .int) D (xT3 cI cZ cV) 0 0 0 [.ref g, .int (nI j), .int 2] [(g, .inr (6, [.ref mP, .int cash, .int cnt, .ref mS, .ref mK, .ref mL, .ref mT, .ref mZ, .ref mD, .ref mH, .ref mG, .ref mC, .int cuts, .int (nI l0), .ref m1, .ref m2, .ref m3, .ref m4, .ref mB, .int siz, .int ctr, .ref mX, .ref mY])), (m3, .inl (cI, 80, .inl ds))] (fun r u => r = ds j ∧ u = [(g, .inr (6, [.ref mP, .int cash, .int cnt, .ref mS, .ref mK, .ref mL, .ref mT, .ref mZ, .ref mD, .ref mH, .ref mG, .ref mC, .int cuts, .int (nI l0), .ref m1, .ref m2, .ref m3, .ref m4, .ref mB, .int siz, .int ctr, .ref mX, .ref mY])), (m3, .inl (cI, 80, .inl ds))]) := by
  intro sz
  refine x_ofW (Qc := fun A => va_Qi _ (xB D A) A) sz (by decide) (Nat.le_of_ble_eq_true rfl) ?_
  intro p e s m args below meth c A ls S hr hlk hnm hw hl
  obtain ⟨hx, hb, hml, hown, hts⟩ := id S
  have hl : lv_has ls 3 [(0, .ref g), (1, .int (nI j)), (2, .int 2)] := hl
  refine lv_iload_n hx hb dMO_log_0 rfl (lv_at hl 1 rfl) ?_
  refine lv_if_lt (tgt := 12) hx hb dMO_log_1 (by decide) (fun h1 => absurd h1 (nI_pos (by omega))) (fun h1 => ?_)
  refine lv_iload_n hx hb dMO_log_4 rfl (lv_at hl 1 rfl) ?_
  refine lv_aload_n hx hb dMO_log_5 rfl (lv_at hl 0 rfl) ?_
  refine x_get S hw (C := RMO) (T := TMO) (N := 23) inMO 0 rfl rfl 13 (by decide) xh_2_158 (v := .int (nI l0)) rfl dMO_log_6 ?_
  refine lv_icmp_lt (tgt := 14) hx hb dMO_log_9 (by decide) (fun h9 => ?_) (fun h9 => absurd (nI_lt (by omega) (by omega)) h9)
  refine lv_iload_n hx hb dMO_log_14 rfl (lv_at hl 2 rfl) ?_
  refine lv_if_ne (tgt := 27) hx hb dMO_log_15 (by decide) (fun h15 => ?_) (fun h15 => absurd h15 (by decide))
  refine lv_iload_n hx hb dMO_log_27 rfl (lv_at hl 2 rfl) ?_
  refine lv_iconst (v := 1) hx hb dMO_log_28 (by decide) ?_
  refine lv_icmp_ne (tgt := 41) hx hb dMO_log_29 (by decide) (fun h29 => ?_) (fun h29 => absurd h29 (by decide))
  refine lv_iload_n hx hb dMO_log_41 rfl (lv_at hl 2 rfl) ?_
  refine lv_iconst (v := 2) hx hb dMO_log_42 (by decide) ?_
  refine lv_icmp_ne (tgt := 55) hx hb dMO_log_43 (by decide) (fun h43 => absurd rfl h43) (fun h43 => ?_)
  refine lv_aload_n hx hb dMO_log_46 rfl (lv_at hl 0 rfl) ?_
  refine x_get S hw (C := RMO) (T := TMO) (N := 23) inMO 0 rfl rfl 16 (by decide) xh_2_161 (v := .ref m3) rfl dMO_log_47 ?_
  refine lv_iload_n hx hb dMO_log_50 rfl (lv_at hl 1 rfl) ?_
  refine x_iald S hw 1 0 rfl rfl (j := j) (vp_in_nI (by omega) (by omega)) (nI_clamp (by omega)) dMO_log_51 ?_
  refine lv_goto (tgt := 70) hx hb dMO_log_52 (by decide) ?_
  exact x_iret S hr hlk hw (by decide) (by decide) (⟨rfl, rfl⟩) dMO_log_70

set_option maxHeartbeats 4000000 in
set_option maxRecDepth 100000 in
theorem m_log_3 (l : Launch) (D : va_G) (cI cZ cV : ClassId) (g : Nat) (mP : Nat) (mS : Nat) (mK : Nat) (mL : Nat) (mT : Nat) (mZ : Nat) (mD : Nat) (mH : Nat) (mG : Nat) (mC : Nat) (m1 : Nat) (m2 : Nat) (m3 : Nat) (m4 : Nat) (mB : Nat) (mX : Nat) (mY : Nat) (cash : Int32) (cnt : Int32) (cuts : Int32) (siz : Int32) (ctr : Int32) (l0 : Nat) (j : Nat) (ss : Nat → Int32) (hj : j < l0 ∧ l0 ≤ 80) : XI l yMO_log cMO_log 3 (some .int) D (xT3 cI cZ cV) 0 0 0 [.ref g, .int (nI j), .int 3] [(g, .inr (6, [.ref mP, .int cash, .int cnt, .ref mS, .ref mK, .ref mL, .ref mT, .ref mZ, .ref mD, .ref mH, .ref mG, .ref mC, .int cuts, .int (nI l0), .ref m1, .ref m2, .ref m3, .ref m4, .ref mB, .int siz, .int ctr, .ref mX, .ref mY])), (m4, .inl (cI, 80, .inl ss))] (fun r u => r = ss j ∧ u = [(g, .inr (6, [.ref mP, .int cash, .int cnt, .ref mS, .ref mK, .ref mL, .ref mT, .ref mZ, .ref mD, .ref mH, .ref mG, .ref mC, .int cuts, .int (nI l0), .ref m1, .ref m2, .ref m3, .ref m4, .ref mB, .int siz, .int ctr, .ref mX, .ref mY])), (m4, .inl (cI, 80, .inl ss))]) := by
  intro sz
  refine x_ofW (Qc := fun A => va_Qi _ (xB D A) A) sz (by decide) (Nat.le_of_ble_eq_true rfl) ?_
  intro p e s m args below meth c A ls S hr hlk hnm hw hl
  obtain ⟨hx, hb, hml, hown, hts⟩ := id S
  have hl : lv_has ls 3 [(0, .ref g), (1, .int (nI j)), (2, .int 3)] := hl
  refine lv_iload_n hx hb dMO_log_0 rfl (lv_at hl 1 rfl) ?_
  refine lv_if_lt (tgt := 12) hx hb dMO_log_1 (by decide) (fun h1 => absurd h1 (nI_pos (by omega))) (fun h1 => ?_)
  refine lv_iload_n hx hb dMO_log_4 rfl (lv_at hl 1 rfl) ?_
  refine lv_aload_n hx hb dMO_log_5 rfl (lv_at hl 0 rfl) ?_
  refine x_get S hw (C := RMO) (T := TMO) (N := 23) inMO 0 rfl rfl 13 (by decide) xh_2_158 (v := .int (nI l0)) rfl dMO_log_6 ?_
  refine lv_icmp_lt (tgt := 14) hx hb dMO_log_9 (by decide) (fun h9 => ?_) (fun h9 => absurd (nI_lt (by omega) (by omega)) h9)
  refine lv_iload_n hx hb dMO_log_14 rfl (lv_at hl 2 rfl) ?_
  refine lv_if_ne (tgt := 27) hx hb dMO_log_15 (by decide) (fun h15 => ?_) (fun h15 => absurd h15 (by decide))
  refine lv_iload_n hx hb dMO_log_27 rfl (lv_at hl 2 rfl) ?_
  refine lv_iconst (v := 1) hx hb dMO_log_28 (by decide) ?_
  refine lv_icmp_ne (tgt := 41) hx hb dMO_log_29 (by decide) (fun h29 => ?_) (fun h29 => absurd h29 (by decide))
  refine lv_iload_n hx hb dMO_log_41 rfl (lv_at hl 2 rfl) ?_
  refine lv_iconst (v := 2) hx hb dMO_log_42 (by decide) ?_
  refine lv_icmp_ne (tgt := 55) hx hb dMO_log_43 (by decide) (fun h43 => ?_) (fun h43 => absurd h43 (by decide))
  refine lv_iload_n hx hb dMO_log_55 rfl (lv_at hl 2 rfl) ?_
  refine lv_iconst (v := 3) hx hb dMO_log_56 (by decide) ?_
  refine lv_icmp_ne (tgt := 69) hx hb dMO_log_57 (by decide) (fun h57 => absurd rfl h57) (fun h57 => ?_)
  refine lv_aload_n hx hb dMO_log_60 rfl (lv_at hl 0 rfl) ?_
  refine x_get S hw (C := RMO) (T := TMO) (N := 23) inMO 0 rfl rfl 17 (by decide) xh_2_162 (v := .ref m4) rfl dMO_log_61 ?_
  refine lv_iload_n hx hb dMO_log_64 rfl (lv_at hl 1 rfl) ?_
  refine x_iald S hw 1 0 rfl rfl (j := j) (vp_in_nI (by omega) (by omega)) (nI_clamp (by omega)) dMO_log_65 ?_
  refine lv_goto (tgt := 70) hx hb dMO_log_66 (by decide) ?_
  exact x_iret S hr hlk hw (by decide) (by decide) (⟨rfl, rfl⟩) dMO_log_70

set_option maxHeartbeats 4000000 in
set_option maxRecDepth 100000 in
theorem m_entries (l : Launch) (D : va_G) (cI cZ cV : ClassId) (g : Nat) (mP : Nat) (mS : Nat) (mK : Nat) (mL : Nat) (mT : Nat) (mZ : Nat) (mD : Nat) (mH : Nat) (mG : Nat) (mC : Nat) (m1 : Nat) (m2 : Nat) (m3 : Nat) (m4 : Nat) (mB : Nat) (mX : Nat) (mY : Nat) (cash : Int32) (cnt : Int32) (cuts : Int32) (lin : Int32) (siz : Int32) (ctr : Int32) : XI l yMO_entries cMO_entries 1 (some .int) D (xT3 cI cZ cV) 0 0 0 [.ref g] [(g, .inr (6, [.ref mP, .int cash, .int cnt, .ref mS, .ref mK, .ref mL, .ref mT, .ref mZ, .ref mD, .ref mH, .ref mG, .ref mC, .int cuts, .int lin, .ref m1, .ref m2, .ref m3, .ref m4, .ref mB, .int siz, .int ctr, .ref mX, .ref mY]))] (fun r u => r = lin ∧ u = [(g, .inr (6, [.ref mP, .int cash, .int cnt, .ref mS, .ref mK, .ref mL, .ref mT, .ref mZ, .ref mD, .ref mH, .ref mG, .ref mC, .int cuts, .int lin, .ref m1, .ref m2, .ref m3, .ref m4, .ref mB, .int siz, .int ctr, .ref mX, .ref mY]))]) := by
  intro sz
  refine x_ofW (Qc := fun A => va_Qi _ (xB D A) A) sz (by decide) (Nat.le_of_ble_eq_true rfl) ?_
  intro p e s m args below meth c A ls S hr hlk hnm hw hl
  obtain ⟨hx, hb, hml, hown, hts⟩ := id S
  have hl : lv_has ls 1 [(0, .ref g)] := hl
  refine lv_aload_n hx hb dMO_entries_0 rfl (lv_at hl 0 rfl) ?_
  refine x_get S hw (C := RMO) (T := TMO) (N := 23) inMO 0 rfl rfl 13 (by decide) xh_2_158 (v := .int lin) rfl dMO_entries_1 ?_
  exact x_iret S hr hlk hw (by decide) (by decide) (⟨rfl, rfl⟩) dMO_entries_4

set_option maxHeartbeats 4000000 in
set_option maxRecDepth 100000 in
theorem i_MO (l : Launch) (D : va_G) (cI cZ cV : ClassId) (q : Nat) : XV l yMO_init cMO_init 1 none D (xT3 cI cZ cV) 1 17 681 [.ref q] [(q, .inr (6, [.null, .int 0, .int 0, .null, .null, .null, .null, .null, .null, .null, .null, .null, .int 0, .int 0, .null, .null, .null, .null, .null, .int 0, .int 0, .null, .null]))] (fun u => ∃ b1 b2 b3 b4 b5 b6 b7 b8 b9 b10 b11 b12 b13 b14 b15 b16 b17 : Nat, u = [(q, .inr (6, [.ref b1, .int 0, .int 0, .ref b2, .ref b3, .ref b4, .ref b5, .ref b6, .ref b7, .ref b8, .ref b9, .ref b10, .int 0, .int 0, .ref b11, .ref b12, .ref b13, .ref b14, .ref b15, .int 0, .int 0, .ref b16, .ref b17])), (b1, .inl (cI, 64, .inl (fun _ => 0))), (b2, .inl (cI, 8, .inl (fun _ => 0))), (b3, .inl (cI, 8, .inl (fun _ => 0))), (b4, .inl (cZ, 8, .inl (fun _ => 0))), (b5, .inl (cI, 8, .inl (fun _ => 0))), (b6, .inl (cI, 8, .inl (fun _ => 0))), (b7, .inl (cI, 72, .inl (fun _ => 0))), (b8, .inl (cI, 72, .inl (fun _ => 0))), (b9, .inl (cZ, 72, .inl (fun _ => 0))), (b10, .inl (cI, 9, .inl (fun _ => 0))), (b11, .inl (cI, 80, .inl (fun _ => 0))), (b12, .inl (cI, 80, .inl (fun _ => 0))), (b13, .inl (cI, 80, .inl (fun _ => 0))), (b14, .inl (cI, 80, .inl (fun _ => 0))), (b15, .inl (cI, 16, .inl (fun _ => 0))), (b16, .inl (cI, 8, .inl (fun _ => 0))), (b17, .inl (cI, 8, .inl (fun _ => 0)))]) := by
  intro sz
  refine x_ofW (Qc := fun A => va_Qv _ (xB D A) A) sz (by decide) (Nat.le_of_ble_eq_true rfl) ?_
  intro p e s m args below meth c A ls S hr hlk hnm hw hl
  obtain ⟨hx, hb, hml, hown, hts⟩ := id S
  have hl : lv_has ls 1 [(0, .ref q)] := hl
  refine lv_aload_n hx hb dMO_init_0 rfl (lv_at hl 0 rfl) ?_
  refine W.objInit hx hb hown (hts _ xh_2_144) (hts _ xh_1_16) (hts _ xh_1_17) rfl (by rw [hml]; exact hl.1) rfl dMO_init_1 (Nat.le_of_ble_eq_true rfl) (Nat.le_of_ble_eq_true rfl) ?_
  refine W.eq (g2 := F0 m 4 ls []) rfl ?_
  refine lv_aload_n hx hb dMO_init_4 rfl (lv_at hl 0 rfl) ?_
  refine lv_bipush (v := 64) hx hb dMO_init_5 (by decide) ?_
  refine x_newi S hw xh_1_35 (N' := 64) (by decide) (by decide) (by decide) (by decide) (by decide) (ws' := fun q7 => [(q, .inr (6, [.null, .int 0, .int 0, .null, .null, .null, .null, .null, .null, .null, .null, .null, .int 0, .int 0, .null, .null, .null, .null, .null, .int 0, .int 0, .null, .null])), (q7, .inl (cI, 64, .inl (fun _ => 0)))]) (fun _ => rfl) dMO_init_7 (fun q7 H hw => ?_)
  refine x_putF S hnm hw (C := RMO) (T := TMO) (N := 23) inMO tyMO tyMO_ok nmMO 0 rfl rfl 0 (by decide) xh_2_145 rfl rfl (v := .ref q7) rfl rfl (Nat.le_of_ble_eq_true rfl) (ws' := [(q, .inr (6, [.ref q7, .int 0, .int 0, .null, .null, .null, .null, .null, .null, .null, .null, .null, .int 0, .int 0, .null, .null, .null, .null, .null, .int 0, .int 0, .null, .null])), (q7, .inl (cI, 64, .inl (fun _ => 0)))]) rfl dMO_init_9 (fun H locs hw => ?_)
  refine lv_aload_n hx hb dMO_init_12 rfl (lv_at hl 0 rfl) ?_
  refine lv_bipush (v := 8) hx hb dMO_init_13 (by decide) ?_
  refine x_newi S hw xh_1_35 (N' := 8) (by decide) (by decide) (by decide) (by decide) (by decide) (ws' := fun q15 => [(q, .inr (6, [.ref q7, .int 0, .int 0, .null, .null, .null, .null, .null, .null, .null, .null, .null, .int 0, .int 0, .null, .null, .null, .null, .null, .int 0, .int 0, .null, .null])), (q7, .inl (cI, 64, .inl (fun _ => 0))), (q15, .inl (cI, 8, .inl (fun _ => 0)))]) (fun _ => rfl) dMO_init_15 (fun q15 H hw => ?_)
  refine x_putF S hnm hw (C := RMO) (T := TMO) (N := 23) inMO tyMO tyMO_ok nmMO 0 rfl rfl 3 (by decide) xh_2_148 rfl rfl (v := .ref q15) rfl rfl (Nat.le_of_ble_eq_true rfl) (ws' := [(q, .inr (6, [.ref q7, .int 0, .int 0, .ref q15, .null, .null, .null, .null, .null, .null, .null, .null, .int 0, .int 0, .null, .null, .null, .null, .null, .int 0, .int 0, .null, .null])), (q7, .inl (cI, 64, .inl (fun _ => 0))), (q15, .inl (cI, 8, .inl (fun _ => 0)))]) rfl dMO_init_17 (fun H locs hw => ?_)
  refine lv_aload_n hx hb dMO_init_20 rfl (lv_at hl 0 rfl) ?_
  refine lv_bipush (v := 8) hx hb dMO_init_21 (by decide) ?_
  refine x_newi S hw xh_1_35 (N' := 8) (by decide) (by decide) (by decide) (by decide) (by decide) (ws' := fun q23 => [(q, .inr (6, [.ref q7, .int 0, .int 0, .ref q15, .null, .null, .null, .null, .null, .null, .null, .null, .int 0, .int 0, .null, .null, .null, .null, .null, .int 0, .int 0, .null, .null])), (q7, .inl (cI, 64, .inl (fun _ => 0))), (q15, .inl (cI, 8, .inl (fun _ => 0))), (q23, .inl (cI, 8, .inl (fun _ => 0)))]) (fun _ => rfl) dMO_init_23 (fun q23 H hw => ?_)
  refine x_putF S hnm hw (C := RMO) (T := TMO) (N := 23) inMO tyMO tyMO_ok nmMO 0 rfl rfl 4 (by decide) xh_2_149 rfl rfl (v := .ref q23) rfl rfl (Nat.le_of_ble_eq_true rfl) (ws' := [(q, .inr (6, [.ref q7, .int 0, .int 0, .ref q15, .ref q23, .null, .null, .null, .null, .null, .null, .null, .int 0, .int 0, .null, .null, .null, .null, .null, .int 0, .int 0, .null, .null])), (q7, .inl (cI, 64, .inl (fun _ => 0))), (q15, .inl (cI, 8, .inl (fun _ => 0))), (q23, .inl (cI, 8, .inl (fun _ => 0)))]) rfl dMO_init_25 (fun H locs hw => ?_)
  refine lv_aload_n hx hb dMO_init_28 rfl (lv_at hl 0 rfl) ?_
  refine lv_bipush (v := 8) hx hb dMO_init_29 (by decide) ?_
  refine x_newz S hw xh_2_215 (N' := 8) (by decide) (by decide) (by decide) (by decide) (by decide) (ws' := fun q31 => [(q, .inr (6, [.ref q7, .int 0, .int 0, .ref q15, .ref q23, .null, .null, .null, .null, .null, .null, .null, .int 0, .int 0, .null, .null, .null, .null, .null, .int 0, .int 0, .null, .null])), (q7, .inl (cI, 64, .inl (fun _ => 0))), (q15, .inl (cI, 8, .inl (fun _ => 0))), (q23, .inl (cI, 8, .inl (fun _ => 0))), (q31, .inl (cZ, 8, .inl (fun _ => 0)))]) (fun _ => rfl) dMO_init_31 (fun q31 H hw => ?_)
  refine x_putF S hnm hw (C := RMO) (T := TMO) (N := 23) inMO tyMO tyMO_ok nmMO 0 rfl rfl 5 (by decide) xh_2_150 rfl rfl (v := .ref q31) rfl rfl (Nat.le_of_ble_eq_true rfl) (ws' := [(q, .inr (6, [.ref q7, .int 0, .int 0, .ref q15, .ref q23, .ref q31, .null, .null, .null, .null, .null, .null, .int 0, .int 0, .null, .null, .null, .null, .null, .int 0, .int 0, .null, .null])), (q7, .inl (cI, 64, .inl (fun _ => 0))), (q15, .inl (cI, 8, .inl (fun _ => 0))), (q23, .inl (cI, 8, .inl (fun _ => 0))), (q31, .inl (cZ, 8, .inl (fun _ => 0)))]) rfl dMO_init_33 (fun H locs hw => ?_)
  refine lv_aload_n hx hb dMO_init_36 rfl (lv_at hl 0 rfl) ?_
  refine lv_bipush (v := 8) hx hb dMO_init_37 (by decide) ?_
  refine x_newi S hw xh_1_35 (N' := 8) (by decide) (by decide) (by decide) (by decide) (by decide) (ws' := fun q39 => [(q, .inr (6, [.ref q7, .int 0, .int 0, .ref q15, .ref q23, .ref q31, .null, .null, .null, .null, .null, .null, .int 0, .int 0, .null, .null, .null, .null, .null, .int 0, .int 0, .null, .null])), (q7, .inl (cI, 64, .inl (fun _ => 0))), (q15, .inl (cI, 8, .inl (fun _ => 0))), (q23, .inl (cI, 8, .inl (fun _ => 0))), (q31, .inl (cZ, 8, .inl (fun _ => 0))), (q39, .inl (cI, 8, .inl (fun _ => 0)))]) (fun _ => rfl) dMO_init_39 (fun q39 H hw => ?_)
  refine x_putF S hnm hw (C := RMO) (T := TMO) (N := 23) inMO tyMO tyMO_ok nmMO 0 rfl rfl 6 (by decide) xh_2_151 rfl rfl (v := .ref q39) rfl rfl (Nat.le_of_ble_eq_true rfl) (ws' := [(q, .inr (6, [.ref q7, .int 0, .int 0, .ref q15, .ref q23, .ref q31, .ref q39, .null, .null, .null, .null, .null, .int 0, .int 0, .null, .null, .null, .null, .null, .int 0, .int 0, .null, .null])), (q7, .inl (cI, 64, .inl (fun _ => 0))), (q15, .inl (cI, 8, .inl (fun _ => 0))), (q23, .inl (cI, 8, .inl (fun _ => 0))), (q31, .inl (cZ, 8, .inl (fun _ => 0))), (q39, .inl (cI, 8, .inl (fun _ => 0)))]) rfl dMO_init_41 (fun H locs hw => ?_)
  refine lv_aload_n hx hb dMO_init_44 rfl (lv_at hl 0 rfl) ?_
  refine lv_bipush (v := 8) hx hb dMO_init_45 (by decide) ?_
  refine x_newi S hw xh_1_35 (N' := 8) (by decide) (by decide) (by decide) (by decide) (by decide) (ws' := fun q47 => [(q, .inr (6, [.ref q7, .int 0, .int 0, .ref q15, .ref q23, .ref q31, .ref q39, .null, .null, .null, .null, .null, .int 0, .int 0, .null, .null, .null, .null, .null, .int 0, .int 0, .null, .null])), (q7, .inl (cI, 64, .inl (fun _ => 0))), (q15, .inl (cI, 8, .inl (fun _ => 0))), (q23, .inl (cI, 8, .inl (fun _ => 0))), (q31, .inl (cZ, 8, .inl (fun _ => 0))), (q39, .inl (cI, 8, .inl (fun _ => 0))), (q47, .inl (cI, 8, .inl (fun _ => 0)))]) (fun _ => rfl) dMO_init_47 (fun q47 H hw => ?_)
  refine x_putF S hnm hw (C := RMO) (T := TMO) (N := 23) inMO tyMO tyMO_ok nmMO 0 rfl rfl 7 (by decide) xh_2_152 rfl rfl (v := .ref q47) rfl rfl (Nat.le_of_ble_eq_true rfl) (ws' := [(q, .inr (6, [.ref q7, .int 0, .int 0, .ref q15, .ref q23, .ref q31, .ref q39, .ref q47, .null, .null, .null, .null, .int 0, .int 0, .null, .null, .null, .null, .null, .int 0, .int 0, .null, .null])), (q7, .inl (cI, 64, .inl (fun _ => 0))), (q15, .inl (cI, 8, .inl (fun _ => 0))), (q23, .inl (cI, 8, .inl (fun _ => 0))), (q31, .inl (cZ, 8, .inl (fun _ => 0))), (q39, .inl (cI, 8, .inl (fun _ => 0))), (q47, .inl (cI, 8, .inl (fun _ => 0)))]) rfl dMO_init_49 (fun H locs hw => ?_)
  refine lv_aload_n hx hb dMO_init_52 rfl (lv_at hl 0 rfl) ?_
  refine lv_bipush (v := 72) hx hb dMO_init_53 (by decide) ?_
  refine x_newi S hw xh_1_35 (N' := 72) (by decide) (by decide) (by decide) (by decide) (by decide) (ws' := fun q55 => [(q, .inr (6, [.ref q7, .int 0, .int 0, .ref q15, .ref q23, .ref q31, .ref q39, .ref q47, .null, .null, .null, .null, .int 0, .int 0, .null, .null, .null, .null, .null, .int 0, .int 0, .null, .null])), (q7, .inl (cI, 64, .inl (fun _ => 0))), (q15, .inl (cI, 8, .inl (fun _ => 0))), (q23, .inl (cI, 8, .inl (fun _ => 0))), (q31, .inl (cZ, 8, .inl (fun _ => 0))), (q39, .inl (cI, 8, .inl (fun _ => 0))), (q47, .inl (cI, 8, .inl (fun _ => 0))), (q55, .inl (cI, 72, .inl (fun _ => 0)))]) (fun _ => rfl) dMO_init_55 (fun q55 H hw => ?_)
  refine x_putF S hnm hw (C := RMO) (T := TMO) (N := 23) inMO tyMO tyMO_ok nmMO 0 rfl rfl 8 (by decide) xh_2_153 rfl rfl (v := .ref q55) rfl rfl (Nat.le_of_ble_eq_true rfl) (ws' := [(q, .inr (6, [.ref q7, .int 0, .int 0, .ref q15, .ref q23, .ref q31, .ref q39, .ref q47, .ref q55, .null, .null, .null, .int 0, .int 0, .null, .null, .null, .null, .null, .int 0, .int 0, .null, .null])), (q7, .inl (cI, 64, .inl (fun _ => 0))), (q15, .inl (cI, 8, .inl (fun _ => 0))), (q23, .inl (cI, 8, .inl (fun _ => 0))), (q31, .inl (cZ, 8, .inl (fun _ => 0))), (q39, .inl (cI, 8, .inl (fun _ => 0))), (q47, .inl (cI, 8, .inl (fun _ => 0))), (q55, .inl (cI, 72, .inl (fun _ => 0)))]) rfl dMO_init_57 (fun H locs hw => ?_)
  refine lv_aload_n hx hb dMO_init_60 rfl (lv_at hl 0 rfl) ?_
  refine lv_bipush (v := 72) hx hb dMO_init_61 (by decide) ?_
  refine x_newi S hw xh_1_35 (N' := 72) (by decide) (by decide) (by decide) (by decide) (by decide) (ws' := fun q63 => [(q, .inr (6, [.ref q7, .int 0, .int 0, .ref q15, .ref q23, .ref q31, .ref q39, .ref q47, .ref q55, .null, .null, .null, .int 0, .int 0, .null, .null, .null, .null, .null, .int 0, .int 0, .null, .null])), (q7, .inl (cI, 64, .inl (fun _ => 0))), (q15, .inl (cI, 8, .inl (fun _ => 0))), (q23, .inl (cI, 8, .inl (fun _ => 0))), (q31, .inl (cZ, 8, .inl (fun _ => 0))), (q39, .inl (cI, 8, .inl (fun _ => 0))), (q47, .inl (cI, 8, .inl (fun _ => 0))), (q55, .inl (cI, 72, .inl (fun _ => 0))), (q63, .inl (cI, 72, .inl (fun _ => 0)))]) (fun _ => rfl) dMO_init_63 (fun q63 H hw => ?_)
  refine x_putF S hnm hw (C := RMO) (T := TMO) (N := 23) inMO tyMO tyMO_ok nmMO 0 rfl rfl 9 (by decide) xh_2_154 rfl rfl (v := .ref q63) rfl rfl (Nat.le_of_ble_eq_true rfl) (ws' := [(q, .inr (6, [.ref q7, .int 0, .int 0, .ref q15, .ref q23, .ref q31, .ref q39, .ref q47, .ref q55, .ref q63, .null, .null, .int 0, .int 0, .null, .null, .null, .null, .null, .int 0, .int 0, .null, .null])), (q7, .inl (cI, 64, .inl (fun _ => 0))), (q15, .inl (cI, 8, .inl (fun _ => 0))), (q23, .inl (cI, 8, .inl (fun _ => 0))), (q31, .inl (cZ, 8, .inl (fun _ => 0))), (q39, .inl (cI, 8, .inl (fun _ => 0))), (q47, .inl (cI, 8, .inl (fun _ => 0))), (q55, .inl (cI, 72, .inl (fun _ => 0))), (q63, .inl (cI, 72, .inl (fun _ => 0)))]) rfl dMO_init_65 (fun H locs hw => ?_)
  refine lv_aload_n hx hb dMO_init_68 rfl (lv_at hl 0 rfl) ?_
  refine lv_bipush (v := 72) hx hb dMO_init_69 (by decide) ?_
  refine x_newz S hw xh_2_215 (N' := 72) (by decide) (by decide) (by decide) (by decide) (by decide) (ws' := fun q71 => [(q, .inr (6, [.ref q7, .int 0, .int 0, .ref q15, .ref q23, .ref q31, .ref q39, .ref q47, .ref q55, .ref q63, .null, .null, .int 0, .int 0, .null, .null, .null, .null, .null, .int 0, .int 0, .null, .null])), (q7, .inl (cI, 64, .inl (fun _ => 0))), (q15, .inl (cI, 8, .inl (fun _ => 0))), (q23, .inl (cI, 8, .inl (fun _ => 0))), (q31, .inl (cZ, 8, .inl (fun _ => 0))), (q39, .inl (cI, 8, .inl (fun _ => 0))), (q47, .inl (cI, 8, .inl (fun _ => 0))), (q55, .inl (cI, 72, .inl (fun _ => 0))), (q63, .inl (cI, 72, .inl (fun _ => 0))), (q71, .inl (cZ, 72, .inl (fun _ => 0)))]) (fun _ => rfl) dMO_init_71 (fun q71 H hw => ?_)
  refine x_putF S hnm hw (C := RMO) (T := TMO) (N := 23) inMO tyMO tyMO_ok nmMO 0 rfl rfl 10 (by decide) xh_2_155 rfl rfl (v := .ref q71) rfl rfl (Nat.le_of_ble_eq_true rfl) (ws' := [(q, .inr (6, [.ref q7, .int 0, .int 0, .ref q15, .ref q23, .ref q31, .ref q39, .ref q47, .ref q55, .ref q63, .ref q71, .null, .int 0, .int 0, .null, .null, .null, .null, .null, .int 0, .int 0, .null, .null])), (q7, .inl (cI, 64, .inl (fun _ => 0))), (q15, .inl (cI, 8, .inl (fun _ => 0))), (q23, .inl (cI, 8, .inl (fun _ => 0))), (q31, .inl (cZ, 8, .inl (fun _ => 0))), (q39, .inl (cI, 8, .inl (fun _ => 0))), (q47, .inl (cI, 8, .inl (fun _ => 0))), (q55, .inl (cI, 72, .inl (fun _ => 0))), (q63, .inl (cI, 72, .inl (fun _ => 0))), (q71, .inl (cZ, 72, .inl (fun _ => 0)))]) rfl dMO_init_73 (fun H locs hw => ?_)
  refine lv_aload_n hx hb dMO_init_76 rfl (lv_at hl 0 rfl) ?_
  refine lv_bipush (v := 9) hx hb dMO_init_77 (by decide) ?_
  refine x_newi S hw xh_1_35 (N' := 9) (by decide) (by decide) (by decide) (by decide) (by decide) (ws' := fun q79 => [(q, .inr (6, [.ref q7, .int 0, .int 0, .ref q15, .ref q23, .ref q31, .ref q39, .ref q47, .ref q55, .ref q63, .ref q71, .null, .int 0, .int 0, .null, .null, .null, .null, .null, .int 0, .int 0, .null, .null])), (q7, .inl (cI, 64, .inl (fun _ => 0))), (q15, .inl (cI, 8, .inl (fun _ => 0))), (q23, .inl (cI, 8, .inl (fun _ => 0))), (q31, .inl (cZ, 8, .inl (fun _ => 0))), (q39, .inl (cI, 8, .inl (fun _ => 0))), (q47, .inl (cI, 8, .inl (fun _ => 0))), (q55, .inl (cI, 72, .inl (fun _ => 0))), (q63, .inl (cI, 72, .inl (fun _ => 0))), (q71, .inl (cZ, 72, .inl (fun _ => 0))), (q79, .inl (cI, 9, .inl (fun _ => 0)))]) (fun _ => rfl) dMO_init_79 (fun q79 H hw => ?_)
  refine x_putF S hnm hw (C := RMO) (T := TMO) (N := 23) inMO tyMO tyMO_ok nmMO 0 rfl rfl 11 (by decide) xh_2_156 rfl rfl (v := .ref q79) rfl rfl (Nat.le_of_ble_eq_true rfl) (ws' := [(q, .inr (6, [.ref q7, .int 0, .int 0, .ref q15, .ref q23, .ref q31, .ref q39, .ref q47, .ref q55, .ref q63, .ref q71, .ref q79, .int 0, .int 0, .null, .null, .null, .null, .null, .int 0, .int 0, .null, .null])), (q7, .inl (cI, 64, .inl (fun _ => 0))), (q15, .inl (cI, 8, .inl (fun _ => 0))), (q23, .inl (cI, 8, .inl (fun _ => 0))), (q31, .inl (cZ, 8, .inl (fun _ => 0))), (q39, .inl (cI, 8, .inl (fun _ => 0))), (q47, .inl (cI, 8, .inl (fun _ => 0))), (q55, .inl (cI, 72, .inl (fun _ => 0))), (q63, .inl (cI, 72, .inl (fun _ => 0))), (q71, .inl (cZ, 72, .inl (fun _ => 0))), (q79, .inl (cI, 9, .inl (fun _ => 0)))]) rfl dMO_init_81 (fun H locs hw => ?_)
  refine lv_aload_n hx hb dMO_init_84 rfl (lv_at hl 0 rfl) ?_
  refine lv_bipush (v := 80) hx hb dMO_init_85 (by decide) ?_
  refine x_newi S hw xh_1_35 (N' := 80) (by decide) (by decide) (by decide) (by decide) (by decide) (ws' := fun q87 => [(q, .inr (6, [.ref q7, .int 0, .int 0, .ref q15, .ref q23, .ref q31, .ref q39, .ref q47, .ref q55, .ref q63, .ref q71, .ref q79, .int 0, .int 0, .null, .null, .null, .null, .null, .int 0, .int 0, .null, .null])), (q7, .inl (cI, 64, .inl (fun _ => 0))), (q15, .inl (cI, 8, .inl (fun _ => 0))), (q23, .inl (cI, 8, .inl (fun _ => 0))), (q31, .inl (cZ, 8, .inl (fun _ => 0))), (q39, .inl (cI, 8, .inl (fun _ => 0))), (q47, .inl (cI, 8, .inl (fun _ => 0))), (q55, .inl (cI, 72, .inl (fun _ => 0))), (q63, .inl (cI, 72, .inl (fun _ => 0))), (q71, .inl (cZ, 72, .inl (fun _ => 0))), (q79, .inl (cI, 9, .inl (fun _ => 0))), (q87, .inl (cI, 80, .inl (fun _ => 0)))]) (fun _ => rfl) dMO_init_87 (fun q87 H hw => ?_)
  refine x_putF S hnm hw (C := RMO) (T := TMO) (N := 23) inMO tyMO tyMO_ok nmMO 0 rfl rfl 14 (by decide) xh_2_159 rfl rfl (v := .ref q87) rfl rfl (Nat.le_of_ble_eq_true rfl) (ws' := [(q, .inr (6, [.ref q7, .int 0, .int 0, .ref q15, .ref q23, .ref q31, .ref q39, .ref q47, .ref q55, .ref q63, .ref q71, .ref q79, .int 0, .int 0, .ref q87, .null, .null, .null, .null, .int 0, .int 0, .null, .null])), (q7, .inl (cI, 64, .inl (fun _ => 0))), (q15, .inl (cI, 8, .inl (fun _ => 0))), (q23, .inl (cI, 8, .inl (fun _ => 0))), (q31, .inl (cZ, 8, .inl (fun _ => 0))), (q39, .inl (cI, 8, .inl (fun _ => 0))), (q47, .inl (cI, 8, .inl (fun _ => 0))), (q55, .inl (cI, 72, .inl (fun _ => 0))), (q63, .inl (cI, 72, .inl (fun _ => 0))), (q71, .inl (cZ, 72, .inl (fun _ => 0))), (q79, .inl (cI, 9, .inl (fun _ => 0))), (q87, .inl (cI, 80, .inl (fun _ => 0)))]) rfl dMO_init_89 (fun H locs hw => ?_)
  refine lv_aload_n hx hb dMO_init_92 rfl (lv_at hl 0 rfl) ?_
  refine lv_bipush (v := 80) hx hb dMO_init_93 (by decide) ?_
  refine x_newi S hw xh_1_35 (N' := 80) (by decide) (by decide) (by decide) (by decide) (by decide) (ws' := fun q95 => [(q, .inr (6, [.ref q7, .int 0, .int 0, .ref q15, .ref q23, .ref q31, .ref q39, .ref q47, .ref q55, .ref q63, .ref q71, .ref q79, .int 0, .int 0, .ref q87, .null, .null, .null, .null, .int 0, .int 0, .null, .null])), (q7, .inl (cI, 64, .inl (fun _ => 0))), (q15, .inl (cI, 8, .inl (fun _ => 0))), (q23, .inl (cI, 8, .inl (fun _ => 0))), (q31, .inl (cZ, 8, .inl (fun _ => 0))), (q39, .inl (cI, 8, .inl (fun _ => 0))), (q47, .inl (cI, 8, .inl (fun _ => 0))), (q55, .inl (cI, 72, .inl (fun _ => 0))), (q63, .inl (cI, 72, .inl (fun _ => 0))), (q71, .inl (cZ, 72, .inl (fun _ => 0))), (q79, .inl (cI, 9, .inl (fun _ => 0))), (q87, .inl (cI, 80, .inl (fun _ => 0))), (q95, .inl (cI, 80, .inl (fun _ => 0)))]) (fun _ => rfl) dMO_init_95 (fun q95 H hw => ?_)
  refine x_putF S hnm hw (C := RMO) (T := TMO) (N := 23) inMO tyMO tyMO_ok nmMO 0 rfl rfl 15 (by decide) xh_2_160 rfl rfl (v := .ref q95) rfl rfl (Nat.le_of_ble_eq_true rfl) (ws' := [(q, .inr (6, [.ref q7, .int 0, .int 0, .ref q15, .ref q23, .ref q31, .ref q39, .ref q47, .ref q55, .ref q63, .ref q71, .ref q79, .int 0, .int 0, .ref q87, .ref q95, .null, .null, .null, .int 0, .int 0, .null, .null])), (q7, .inl (cI, 64, .inl (fun _ => 0))), (q15, .inl (cI, 8, .inl (fun _ => 0))), (q23, .inl (cI, 8, .inl (fun _ => 0))), (q31, .inl (cZ, 8, .inl (fun _ => 0))), (q39, .inl (cI, 8, .inl (fun _ => 0))), (q47, .inl (cI, 8, .inl (fun _ => 0))), (q55, .inl (cI, 72, .inl (fun _ => 0))), (q63, .inl (cI, 72, .inl (fun _ => 0))), (q71, .inl (cZ, 72, .inl (fun _ => 0))), (q79, .inl (cI, 9, .inl (fun _ => 0))), (q87, .inl (cI, 80, .inl (fun _ => 0))), (q95, .inl (cI, 80, .inl (fun _ => 0)))]) rfl dMO_init_97 (fun H locs hw => ?_)
  refine lv_aload_n hx hb dMO_init_100 rfl (lv_at hl 0 rfl) ?_
  refine lv_bipush (v := 80) hx hb dMO_init_101 (by decide) ?_
  refine x_newi S hw xh_1_35 (N' := 80) (by decide) (by decide) (by decide) (by decide) (by decide) (ws' := fun q103 => [(q, .inr (6, [.ref q7, .int 0, .int 0, .ref q15, .ref q23, .ref q31, .ref q39, .ref q47, .ref q55, .ref q63, .ref q71, .ref q79, .int 0, .int 0, .ref q87, .ref q95, .null, .null, .null, .int 0, .int 0, .null, .null])), (q7, .inl (cI, 64, .inl (fun _ => 0))), (q15, .inl (cI, 8, .inl (fun _ => 0))), (q23, .inl (cI, 8, .inl (fun _ => 0))), (q31, .inl (cZ, 8, .inl (fun _ => 0))), (q39, .inl (cI, 8, .inl (fun _ => 0))), (q47, .inl (cI, 8, .inl (fun _ => 0))), (q55, .inl (cI, 72, .inl (fun _ => 0))), (q63, .inl (cI, 72, .inl (fun _ => 0))), (q71, .inl (cZ, 72, .inl (fun _ => 0))), (q79, .inl (cI, 9, .inl (fun _ => 0))), (q87, .inl (cI, 80, .inl (fun _ => 0))), (q95, .inl (cI, 80, .inl (fun _ => 0))), (q103, .inl (cI, 80, .inl (fun _ => 0)))]) (fun _ => rfl) dMO_init_103 (fun q103 H hw => ?_)
  refine x_putF S hnm hw (C := RMO) (T := TMO) (N := 23) inMO tyMO tyMO_ok nmMO 0 rfl rfl 16 (by decide) xh_2_161 rfl rfl (v := .ref q103) rfl rfl (Nat.le_of_ble_eq_true rfl) (ws' := [(q, .inr (6, [.ref q7, .int 0, .int 0, .ref q15, .ref q23, .ref q31, .ref q39, .ref q47, .ref q55, .ref q63, .ref q71, .ref q79, .int 0, .int 0, .ref q87, .ref q95, .ref q103, .null, .null, .int 0, .int 0, .null, .null])), (q7, .inl (cI, 64, .inl (fun _ => 0))), (q15, .inl (cI, 8, .inl (fun _ => 0))), (q23, .inl (cI, 8, .inl (fun _ => 0))), (q31, .inl (cZ, 8, .inl (fun _ => 0))), (q39, .inl (cI, 8, .inl (fun _ => 0))), (q47, .inl (cI, 8, .inl (fun _ => 0))), (q55, .inl (cI, 72, .inl (fun _ => 0))), (q63, .inl (cI, 72, .inl (fun _ => 0))), (q71, .inl (cZ, 72, .inl (fun _ => 0))), (q79, .inl (cI, 9, .inl (fun _ => 0))), (q87, .inl (cI, 80, .inl (fun _ => 0))), (q95, .inl (cI, 80, .inl (fun _ => 0))), (q103, .inl (cI, 80, .inl (fun _ => 0)))]) rfl dMO_init_105 (fun H locs hw => ?_)
  refine lv_aload_n hx hb dMO_init_108 rfl (lv_at hl 0 rfl) ?_
  refine lv_bipush (v := 80) hx hb dMO_init_109 (by decide) ?_
  refine x_newi S hw xh_1_35 (N' := 80) (by decide) (by decide) (by decide) (by decide) (by decide) (ws' := fun q111 => [(q, .inr (6, [.ref q7, .int 0, .int 0, .ref q15, .ref q23, .ref q31, .ref q39, .ref q47, .ref q55, .ref q63, .ref q71, .ref q79, .int 0, .int 0, .ref q87, .ref q95, .ref q103, .null, .null, .int 0, .int 0, .null, .null])), (q7, .inl (cI, 64, .inl (fun _ => 0))), (q15, .inl (cI, 8, .inl (fun _ => 0))), (q23, .inl (cI, 8, .inl (fun _ => 0))), (q31, .inl (cZ, 8, .inl (fun _ => 0))), (q39, .inl (cI, 8, .inl (fun _ => 0))), (q47, .inl (cI, 8, .inl (fun _ => 0))), (q55, .inl (cI, 72, .inl (fun _ => 0))), (q63, .inl (cI, 72, .inl (fun _ => 0))), (q71, .inl (cZ, 72, .inl (fun _ => 0))), (q79, .inl (cI, 9, .inl (fun _ => 0))), (q87, .inl (cI, 80, .inl (fun _ => 0))), (q95, .inl (cI, 80, .inl (fun _ => 0))), (q103, .inl (cI, 80, .inl (fun _ => 0))), (q111, .inl (cI, 80, .inl (fun _ => 0)))]) (fun _ => rfl) dMO_init_111 (fun q111 H hw => ?_)
  refine x_putF S hnm hw (C := RMO) (T := TMO) (N := 23) inMO tyMO tyMO_ok nmMO 0 rfl rfl 17 (by decide) xh_2_162 rfl rfl (v := .ref q111) rfl rfl (Nat.le_of_ble_eq_true rfl) (ws' := [(q, .inr (6, [.ref q7, .int 0, .int 0, .ref q15, .ref q23, .ref q31, .ref q39, .ref q47, .ref q55, .ref q63, .ref q71, .ref q79, .int 0, .int 0, .ref q87, .ref q95, .ref q103, .ref q111, .null, .int 0, .int 0, .null, .null])), (q7, .inl (cI, 64, .inl (fun _ => 0))), (q15, .inl (cI, 8, .inl (fun _ => 0))), (q23, .inl (cI, 8, .inl (fun _ => 0))), (q31, .inl (cZ, 8, .inl (fun _ => 0))), (q39, .inl (cI, 8, .inl (fun _ => 0))), (q47, .inl (cI, 8, .inl (fun _ => 0))), (q55, .inl (cI, 72, .inl (fun _ => 0))), (q63, .inl (cI, 72, .inl (fun _ => 0))), (q71, .inl (cZ, 72, .inl (fun _ => 0))), (q79, .inl (cI, 9, .inl (fun _ => 0))), (q87, .inl (cI, 80, .inl (fun _ => 0))), (q95, .inl (cI, 80, .inl (fun _ => 0))), (q103, .inl (cI, 80, .inl (fun _ => 0))), (q111, .inl (cI, 80, .inl (fun _ => 0)))]) rfl dMO_init_113 (fun H locs hw => ?_)
  refine lv_aload_n hx hb dMO_init_116 rfl (lv_at hl 0 rfl) ?_
  refine lv_bipush (v := 16) hx hb dMO_init_117 (by decide) ?_
  refine x_newi S hw xh_1_35 (N' := 16) (by decide) (by decide) (by decide) (by decide) (by decide) (ws' := fun q119 => [(q, .inr (6, [.ref q7, .int 0, .int 0, .ref q15, .ref q23, .ref q31, .ref q39, .ref q47, .ref q55, .ref q63, .ref q71, .ref q79, .int 0, .int 0, .ref q87, .ref q95, .ref q103, .ref q111, .null, .int 0, .int 0, .null, .null])), (q7, .inl (cI, 64, .inl (fun _ => 0))), (q15, .inl (cI, 8, .inl (fun _ => 0))), (q23, .inl (cI, 8, .inl (fun _ => 0))), (q31, .inl (cZ, 8, .inl (fun _ => 0))), (q39, .inl (cI, 8, .inl (fun _ => 0))), (q47, .inl (cI, 8, .inl (fun _ => 0))), (q55, .inl (cI, 72, .inl (fun _ => 0))), (q63, .inl (cI, 72, .inl (fun _ => 0))), (q71, .inl (cZ, 72, .inl (fun _ => 0))), (q79, .inl (cI, 9, .inl (fun _ => 0))), (q87, .inl (cI, 80, .inl (fun _ => 0))), (q95, .inl (cI, 80, .inl (fun _ => 0))), (q103, .inl (cI, 80, .inl (fun _ => 0))), (q111, .inl (cI, 80, .inl (fun _ => 0))), (q119, .inl (cI, 16, .inl (fun _ => 0)))]) (fun _ => rfl) dMO_init_119 (fun q119 H hw => ?_)
  refine x_putF S hnm hw (C := RMO) (T := TMO) (N := 23) inMO tyMO tyMO_ok nmMO 0 rfl rfl 18 (by decide) xh_2_163 rfl rfl (v := .ref q119) rfl rfl (Nat.le_of_ble_eq_true rfl) (ws' := [(q, .inr (6, [.ref q7, .int 0, .int 0, .ref q15, .ref q23, .ref q31, .ref q39, .ref q47, .ref q55, .ref q63, .ref q71, .ref q79, .int 0, .int 0, .ref q87, .ref q95, .ref q103, .ref q111, .ref q119, .int 0, .int 0, .null, .null])), (q7, .inl (cI, 64, .inl (fun _ => 0))), (q15, .inl (cI, 8, .inl (fun _ => 0))), (q23, .inl (cI, 8, .inl (fun _ => 0))), (q31, .inl (cZ, 8, .inl (fun _ => 0))), (q39, .inl (cI, 8, .inl (fun _ => 0))), (q47, .inl (cI, 8, .inl (fun _ => 0))), (q55, .inl (cI, 72, .inl (fun _ => 0))), (q63, .inl (cI, 72, .inl (fun _ => 0))), (q71, .inl (cZ, 72, .inl (fun _ => 0))), (q79, .inl (cI, 9, .inl (fun _ => 0))), (q87, .inl (cI, 80, .inl (fun _ => 0))), (q95, .inl (cI, 80, .inl (fun _ => 0))), (q103, .inl (cI, 80, .inl (fun _ => 0))), (q111, .inl (cI, 80, .inl (fun _ => 0))), (q119, .inl (cI, 16, .inl (fun _ => 0)))]) rfl dMO_init_121 (fun H locs hw => ?_)
  refine lv_aload_n hx hb dMO_init_124 rfl (lv_at hl 0 rfl) ?_
  refine lv_bipush (v := 8) hx hb dMO_init_125 (by decide) ?_
  refine x_newi S hw xh_1_35 (N' := 8) (by decide) (by decide) (by decide) (by decide) (by decide) (ws' := fun q127 => [(q, .inr (6, [.ref q7, .int 0, .int 0, .ref q15, .ref q23, .ref q31, .ref q39, .ref q47, .ref q55, .ref q63, .ref q71, .ref q79, .int 0, .int 0, .ref q87, .ref q95, .ref q103, .ref q111, .ref q119, .int 0, .int 0, .null, .null])), (q7, .inl (cI, 64, .inl (fun _ => 0))), (q15, .inl (cI, 8, .inl (fun _ => 0))), (q23, .inl (cI, 8, .inl (fun _ => 0))), (q31, .inl (cZ, 8, .inl (fun _ => 0))), (q39, .inl (cI, 8, .inl (fun _ => 0))), (q47, .inl (cI, 8, .inl (fun _ => 0))), (q55, .inl (cI, 72, .inl (fun _ => 0))), (q63, .inl (cI, 72, .inl (fun _ => 0))), (q71, .inl (cZ, 72, .inl (fun _ => 0))), (q79, .inl (cI, 9, .inl (fun _ => 0))), (q87, .inl (cI, 80, .inl (fun _ => 0))), (q95, .inl (cI, 80, .inl (fun _ => 0))), (q103, .inl (cI, 80, .inl (fun _ => 0))), (q111, .inl (cI, 80, .inl (fun _ => 0))), (q119, .inl (cI, 16, .inl (fun _ => 0))), (q127, .inl (cI, 8, .inl (fun _ => 0)))]) (fun _ => rfl) dMO_init_127 (fun q127 H hw => ?_)
  refine x_putF S hnm hw (C := RMO) (T := TMO) (N := 23) inMO tyMO tyMO_ok nmMO 0 rfl rfl 21 (by decide) xh_2_166 rfl rfl (v := .ref q127) rfl rfl (Nat.le_of_ble_eq_true rfl) (ws' := [(q, .inr (6, [.ref q7, .int 0, .int 0, .ref q15, .ref q23, .ref q31, .ref q39, .ref q47, .ref q55, .ref q63, .ref q71, .ref q79, .int 0, .int 0, .ref q87, .ref q95, .ref q103, .ref q111, .ref q119, .int 0, .int 0, .ref q127, .null])), (q7, .inl (cI, 64, .inl (fun _ => 0))), (q15, .inl (cI, 8, .inl (fun _ => 0))), (q23, .inl (cI, 8, .inl (fun _ => 0))), (q31, .inl (cZ, 8, .inl (fun _ => 0))), (q39, .inl (cI, 8, .inl (fun _ => 0))), (q47, .inl (cI, 8, .inl (fun _ => 0))), (q55, .inl (cI, 72, .inl (fun _ => 0))), (q63, .inl (cI, 72, .inl (fun _ => 0))), (q71, .inl (cZ, 72, .inl (fun _ => 0))), (q79, .inl (cI, 9, .inl (fun _ => 0))), (q87, .inl (cI, 80, .inl (fun _ => 0))), (q95, .inl (cI, 80, .inl (fun _ => 0))), (q103, .inl (cI, 80, .inl (fun _ => 0))), (q111, .inl (cI, 80, .inl (fun _ => 0))), (q119, .inl (cI, 16, .inl (fun _ => 0))), (q127, .inl (cI, 8, .inl (fun _ => 0)))]) rfl dMO_init_129 (fun H locs hw => ?_)
  refine lv_aload_n hx hb dMO_init_132 rfl (lv_at hl 0 rfl) ?_
  refine lv_bipush (v := 8) hx hb dMO_init_133 (by decide) ?_
  refine x_newi S hw xh_1_35 (N' := 8) (by decide) (by decide) (by decide) (by decide) (by decide) (ws' := fun q135 => [(q, .inr (6, [.ref q7, .int 0, .int 0, .ref q15, .ref q23, .ref q31, .ref q39, .ref q47, .ref q55, .ref q63, .ref q71, .ref q79, .int 0, .int 0, .ref q87, .ref q95, .ref q103, .ref q111, .ref q119, .int 0, .int 0, .ref q127, .null])), (q7, .inl (cI, 64, .inl (fun _ => 0))), (q15, .inl (cI, 8, .inl (fun _ => 0))), (q23, .inl (cI, 8, .inl (fun _ => 0))), (q31, .inl (cZ, 8, .inl (fun _ => 0))), (q39, .inl (cI, 8, .inl (fun _ => 0))), (q47, .inl (cI, 8, .inl (fun _ => 0))), (q55, .inl (cI, 72, .inl (fun _ => 0))), (q63, .inl (cI, 72, .inl (fun _ => 0))), (q71, .inl (cZ, 72, .inl (fun _ => 0))), (q79, .inl (cI, 9, .inl (fun _ => 0))), (q87, .inl (cI, 80, .inl (fun _ => 0))), (q95, .inl (cI, 80, .inl (fun _ => 0))), (q103, .inl (cI, 80, .inl (fun _ => 0))), (q111, .inl (cI, 80, .inl (fun _ => 0))), (q119, .inl (cI, 16, .inl (fun _ => 0))), (q127, .inl (cI, 8, .inl (fun _ => 0))), (q135, .inl (cI, 8, .inl (fun _ => 0)))]) (fun _ => rfl) dMO_init_135 (fun q135 H hw => ?_)
  refine x_putF S hnm hw (C := RMO) (T := TMO) (N := 23) inMO tyMO tyMO_ok nmMO 0 rfl rfl 22 (by decide) xh_2_167 rfl rfl (v := .ref q135) rfl rfl (Nat.le_of_ble_eq_true rfl) (ws' := [(q, .inr (6, [.ref q7, .int 0, .int 0, .ref q15, .ref q23, .ref q31, .ref q39, .ref q47, .ref q55, .ref q63, .ref q71, .ref q79, .int 0, .int 0, .ref q87, .ref q95, .ref q103, .ref q111, .ref q119, .int 0, .int 0, .ref q127, .ref q135])), (q7, .inl (cI, 64, .inl (fun _ => 0))), (q15, .inl (cI, 8, .inl (fun _ => 0))), (q23, .inl (cI, 8, .inl (fun _ => 0))), (q31, .inl (cZ, 8, .inl (fun _ => 0))), (q39, .inl (cI, 8, .inl (fun _ => 0))), (q47, .inl (cI, 8, .inl (fun _ => 0))), (q55, .inl (cI, 72, .inl (fun _ => 0))), (q63, .inl (cI, 72, .inl (fun _ => 0))), (q71, .inl (cZ, 72, .inl (fun _ => 0))), (q79, .inl (cI, 9, .inl (fun _ => 0))), (q87, .inl (cI, 80, .inl (fun _ => 0))), (q95, .inl (cI, 80, .inl (fun _ => 0))), (q103, .inl (cI, 80, .inl (fun _ => 0))), (q111, .inl (cI, 80, .inl (fun _ => 0))), (q119, .inl (cI, 16, .inl (fun _ => 0))), (q127, .inl (cI, 8, .inl (fun _ => 0))), (q135, .inl (cI, 8, .inl (fun _ => 0)))]) rfl dMO_init_137 (fun H locs hw => ?_)
  exact x_vret S hr hlk hw (by decide) (by decide) (⟨q7, q15, q23, q31, q39, q47, q55, q63, q71, q79, q87, q95, q103, q111, q119, q127, q135, rfl⟩) dMO_init_140
