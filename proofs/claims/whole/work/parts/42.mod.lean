set_option maxHeartbeats 4000000 in
set_option maxRecDepth 100000 in
theorem ml_sp1 {p : Program} {l : Launch} {e : Env} {s : State} {m : MethodId} {args : Array Value} {below : List Frame} {meth : Method} {c : Code} {Q : State → Prop} {D : va_G} {A : Nat → Prop} {cI cZ cV : ClassId} {H0 : Heap} {R : Room} {cells slots : Nat} (hR : R = (xR 2 0 0)) (hC : cells = 0 ∧ slots = 0) (S : CallFix p m c cMO_split 8 s args xAll "EscrowedVersionsModel") (g : Nat) (mP : Nat) (mS : Nat) (mK : Nat) (mL : Nat) (mT : Nat) (mZ : Nat) (mD : Nat) (mH : Nat) (mG : Nat) (mC : Nat) (m1 : Nat) (m2 : Nat) (m3 : Nat) (m4 : Nat) (mB : Nat) (mX : Nat) (mY : Nat) (cash : Int32) (cnt : Int32) (cuts : Int32) (lin : Int32) (siz : Int32) (ctr : Int32) (st : Nat → Int32) (su : Nat → Int32) (se : Nat → Int32) (pu : Nat → Int32) (ct : Nat → Int32) (xx : Nat → Int32) (yy : Nat → Int32) (dd : Nat → Int32) (tt : Nat → Int32) (zz : Nat → Int32) (ks : Nat → Int32) (ns : Nat → Int32) (ds : Nat → Int32) (ss : Nat → Int32) (k0 : Nat) (t1 : Nat) (n0 : Nat)
    (kk : ∀ (ls : Array Slot) (H : Heap) (locs : List Loc), xW D (xT3 cI cZ cV) A H0 H locs [(g, .inr (6, [.ref mP, .int cash, .int cnt, .ref mS, .ref mK, .ref mL, .ref mT, .ref mZ, .ref mD, .ref mH, .ref mG, .ref mC, .int cuts, .int lin, .ref m1, .ref m2, .ref m3, .ref m4, .ref mB, .int siz, .int ctr, .ref mX, .ref mY])), (mS, .inl (cI, 8, .inl st)), (mL, .inl (cZ, 8, .inl su)), (mK, .inl (cI, 8, .inl se)), (mP, .inl (cI, 64, .inl pu)), (mC, .inl (cI, 9, .inl (flF ct 0 9))), (mX, .inl (cI, 8, .inl xx)), (mY, .inl (cI, 8, .inl yy)), (mD, .inl (cI, 72, .inl dd)), (mT, .inl (cI, 8, .inl tt)), (mZ, .inl (cI, 8, .inl zz)), (m1, .inl (cI, 80, .inl ks)), (m2, .inl (cI, 80, .inl ns)), (m3, .inl (cI, 80, .inl ds)), (m4, .inl (cI, 80, .inl ss))] s → lv_has ls 8 [(0, .ref g), (1, .int (nI k0)), (2, .int (nI (t1 + 1))), (3, .int (nI n0)), (4, .int (nI 9))] → W p l e R s m args below meth c H locs cells slots Q (F0 m 102 ls [])) :
    ∀ (n k : Nat) (ls : Array Slot) (H : Heap) (locs : List Loc), k + n = 9 → xW D (xT3 cI cZ cV) A H0 H locs [(g, .inr (6, [.ref mP, .int cash, .int cnt, .ref mS, .ref mK, .ref mL, .ref mT, .ref mZ, .ref mD, .ref mH, .ref mG, .ref mC, .int cuts, .int lin, .ref m1, .ref m2, .ref m3, .ref m4, .ref mB, .int siz, .int ctr, .ref mX, .ref mY])), (mS, .inl (cI, 8, .inl st)), (mL, .inl (cZ, 8, .inl su)), (mK, .inl (cI, 8, .inl se)), (mP, .inl (cI, 64, .inl pu)), (mC, .inl (cI, 9, .inl (flF ct 0 k))), (mX, .inl (cI, 8, .inl xx)), (mY, .inl (cI, 8, .inl yy)), (mD, .inl (cI, 72, .inl dd)), (mT, .inl (cI, 8, .inl tt)), (mZ, .inl (cI, 8, .inl zz)), (m1, .inl (cI, 80, .inl ks)), (m2, .inl (cI, 80, .inl ns)), (m3, .inl (cI, 80, .inl ds)), (m4, .inl (cI, 80, .inl ss))] s → lv_has ls 8 [(0, .ref g), (1, .int (nI k0)), (2, .int (nI (t1 + 1))), (3, .int (nI n0)), (4, .int (nI k))] → W p l e R s m args below meth c H locs cells slots Q (F0 m 81 ls []) := by
  obtain ⟨hx, hb, hml, hown, hts⟩ := id S
  subst hR
  obtain ⟨rfl, rfl⟩ := hC
  intro n
  induction n with
  | zero =>
    intro k ls H locs hk hw hl
    obtain rfl : 9 = k := by omega
    refine lv_iload hx hb dMO_split_81 (lv_at hl 4 rfl) ?_
    refine lv_bipush (v := 9) hx hb dMO_split_83 (by decide) ?_
    refine lv_icmp_ge (tgt := 102) hx hb dMO_split_85 (by decide) (fun h85 => ?_) (fun h85 => absurd (by decide +kernel) h85)
    exact kk ls H locs hw (lv_sub hl [0, 1, 2, 3, 4] rfl)
  | succ n ih =>
    intro k ls H locs hk hw hl
    have hkN : k < 9 := by omega
    refine lv_iload hx hb dMO_split_81 (lv_at hl 4 rfl) ?_
    refine lv_bipush (v := 9) hx hb dMO_split_83 (by decide) ?_
    refine lv_icmp_ge (tgt := 102) hx hb dMO_split_85 (by decide) (fun h85 => absurd h85 (nI_ge (b := 9) hkN (by decide))) (fun h85 => ?_)
    refine lv_aload_n hx hb dMO_split_88 rfl (lv_at hl 0 rfl) ?_
    refine x_get S hw (C := RMO) (T := TMO) (N := 23) inMO 0 rfl rfl 11 (by decide) xh_2_156 (v := .ref mC) rfl dMO_split_89 ?_
    refine lv_iload hx hb dMO_split_92 (lv_at hl 4 rfl) ?_
    refine lv_iconst (v := 0) hx hb dMO_split_94 (by decide) ?_
    refine x_iast S hw 5 0 rfl rfl (j := k) (vp_in_nI (by omega) (by omega)) (nI_clamp (by omega)) (ws' := [(g, .inr (6, [.ref mP, .int cash, .int cnt, .ref mS, .ref mK, .ref mL, .ref mT, .ref mZ, .ref mD, .ref mH, .ref mG, .ref mC, .int cuts, .int lin, .ref m1, .ref m2, .ref m3, .ref m4, .ref mB, .int siz, .int ctr, .ref mX, .ref mY])), (mS, .inl (cI, 8, .inl st)), (mL, .inl (cZ, 8, .inl su)), (mK, .inl (cI, 8, .inl se)), (mP, .inl (cI, 64, .inl pu)), (mC, .inl (cI, 9, .inl (upd (flF ct 0 k) k 0))), (mX, .inl (cI, 8, .inl xx)), (mY, .inl (cI, 8, .inl yy)), (mD, .inl (cI, 72, .inl dd)), (mT, .inl (cI, 8, .inl tt)), (mZ, .inl (cI, 8, .inl zz)), (m1, .inl (cI, 80, .inl ks)), (m2, .inl (cI, 80, .inl ns)), (m3, .inl (cI, 80, .inl ds)), (m4, .inl (cI, 80, .inl ss))]) rfl dMO_split_95 (fun H locs hw => ?_)
    refine lv_iinc (v := nI (k + 1)) (lv' := [(4, .int (nI (k + 1))), (0, .ref g), (1, .int (nI k0)), (2, .int (nI (t1 + 1))), (3, .int (nI n0))]) hx hb dMO_split_96 hl (k := 4) rfl ((nI_succ _).symm) (by decide) rfl (fun ls hl => ?_)
    refine lv_goto (tgt := 81) hx hb dMO_split_99 (by decide) ?_
    have e0 : flF ct 0 (k + 1) = upd (flF ct 0 k) k 0 := by simp only [flF]
    refine ih (k + 1) ls H locs (by omega) ?_ ?_
    · rw [e0]; exact hw
    · exact lv_sub hl [1, 2, 3, 4, 0] rfl

set_option maxHeartbeats 4000000 in
set_option maxRecDepth 100000 in
theorem ml_sp2 {p : Program} {l : Launch} {e : Env} {s : State} {m : MethodId} {args : Array Value} {below : List Frame} {meth : Method} {c : Code} {Q : State → Prop} {D : va_G} {A : Nat → Prop} {cI cZ cV : ClassId} {H0 : Heap} {R : Room} {cells slots : Nat} (hR : R = (xR 2 0 0)) (hC : cells = 0 ∧ slots = 0) (S : CallFix p m c cMO_split 8 s args xAll "EscrowedVersionsModel") (g : Nat) (mP : Nat) (mS : Nat) (mK : Nat) (mL : Nat) (mT : Nat) (mZ : Nat) (mD : Nat) (mH : Nat) (mG : Nat) (mC : Nat) (m1 : Nat) (m2 : Nat) (m3 : Nat) (m4 : Nat) (mB : Nat) (mX : Nat) (mY : Nat) (cash : Int32) (cnt : Int32) (cuts : Int32) (lin : Int32) (siz : Int32) (ctr : Int32) (st : Nat → Int32) (su : Nat → Int32) (se : Nat → Int32) (pu : Nat → Int32) (ct : Nat → Int32) (xx : Nat → Int32) (yy : Nat → Int32) (dd : Nat → Int32) (tt : Nat → Int32) (zz : Nat → Int32) (ks : Nat → Int32) (ns : Nat → Int32) (ds : Nat → Int32) (ss : Nat → Int32) (i4 : Int32) (k0 : Nat) (t1 : Nat) (n0 : Nat) (hk0 : k0 < 8)
    (kk : ∀ (ls : Array Slot) (H : Heap) (locs : List Loc), xW D (xT3 cI cZ cV) A H0 H locs [(g, .inr (6, [.ref mP, .int cash, .int cnt, .ref mS, .ref mK, .ref mL, .ref mT, .ref mZ, .ref mD, .ref mH, .ref mG, .ref mC, .int cuts, .int lin, .ref m1, .ref m2, .ref m3, .ref m4, .ref mB, .int siz, .int ctr, .ref mX, .ref mY])), (mS, .inl (cI, 8, .inl st)), (mL, .inl (cZ, 8, .inl su)), (mK, .inl (cI, 8, .inl se)), (mP, .inl (cI, 64, .inl pu)), (mC, .inl (cI, 9, .inl ct)), (mX, .inl (cI, 8, .inl (flF xx 1 8))), (mY, .inl (cI, 8, .inl (flF yy (fByt (se k0) i4) 8))), (mD, .inl (cI, 72, .inl dd)), (mT, .inl (cI, 8, .inl tt)), (mZ, .inl (cI, 8, .inl zz)), (m1, .inl (cI, 80, .inl ks)), (m2, .inl (cI, 80, .inl ns)), (m3, .inl (cI, 80, .inl ds)), (m4, .inl (cI, 80, .inl ss))] s → lv_has ls 8 [(0, .ref g), (1, .int (nI k0)), (2, .int (nI (t1 + 1))), (3, .int (nI n0)), (4, .int i4), (5, .int (nI 8))] → W p l e R s m args below meth c H locs cells slots Q (F0 m 153 ls [])) :
    ∀ (n k : Nat) (ls : Array Slot) (H : Heap) (locs : List Loc), k + n = 8 → xW D (xT3 cI cZ cV) A H0 H locs [(g, .inr (6, [.ref mP, .int cash, .int cnt, .ref mS, .ref mK, .ref mL, .ref mT, .ref mZ, .ref mD, .ref mH, .ref mG, .ref mC, .int cuts, .int lin, .ref m1, .ref m2, .ref m3, .ref m4, .ref mB, .int siz, .int ctr, .ref mX, .ref mY])), (mS, .inl (cI, 8, .inl st)), (mL, .inl (cZ, 8, .inl su)), (mK, .inl (cI, 8, .inl se)), (mP, .inl (cI, 64, .inl pu)), (mC, .inl (cI, 9, .inl ct)), (mX, .inl (cI, 8, .inl (flF xx 1 k))), (mY, .inl (cI, 8, .inl (flF yy (fByt (se k0) i4) k))), (mD, .inl (cI, 72, .inl dd)), (mT, .inl (cI, 8, .inl tt)), (mZ, .inl (cI, 8, .inl zz)), (m1, .inl (cI, 80, .inl ks)), (m2, .inl (cI, 80, .inl ns)), (m3, .inl (cI, 80, .inl ds)), (m4, .inl (cI, 80, .inl ss))] s → lv_has ls 8 [(0, .ref g), (1, .int (nI k0)), (2, .int (nI (t1 + 1))), (3, .int (nI n0)), (4, .int i4), (5, .int (nI k))] → W p l e R s m args below meth c H locs cells slots Q (F0 m 114 ls []) := by
  obtain ⟨hx, hb, hml, hown, hts⟩ := id S
  subst hR
  obtain ⟨rfl, rfl⟩ := hC
  intro n
  induction n with
  | zero =>
    intro k ls H locs hk hw hl
    obtain rfl : 8 = k := by omega
    refine lv_iload hx hb dMO_split_114 (lv_at hl 5 rfl) ?_
    refine lv_bipush (v := 8) hx hb dMO_split_116 (by decide) ?_
    refine lv_icmp_ge (tgt := 153) hx hb dMO_split_118 (by decide) (fun h118 => ?_) (fun h118 => absurd (by decide +kernel) h118)
    exact kk ls H locs hw (lv_sub hl [0, 1, 2, 3, 4, 5] rfl)
  | succ n ih =>
    intro k ls H locs hk hw hl
    have hkN : k < 8 := by omega
    refine lv_iload hx hb dMO_split_114 (lv_at hl 5 rfl) ?_
    refine lv_bipush (v := 8) hx hb dMO_split_116 (by decide) ?_
    refine lv_icmp_ge (tgt := 153) hx hb dMO_split_118 (by decide) (fun h118 => absurd h118 (nI_ge (b := 8) hkN (by decide))) (fun h118 => ?_)
    refine lv_aload_n hx hb dMO_split_121 rfl (lv_at hl 0 rfl) ?_
    refine x_get S hw (C := RMO) (T := TMO) (N := 23) inMO 0 rfl rfl 21 (by decide) xh_2_166 (v := .ref mX) rfl dMO_split_122 ?_
    refine lv_iload hx hb dMO_split_125 (lv_at hl 5 rfl) ?_
    refine lv_iconst (v := 1) hx hb dMO_split_127 (by decide) ?_
    refine x_iast S hw 6 0 rfl rfl (j := k) (vp_in_nI (by omega) (by omega)) (nI_clamp (by omega)) (ws' := [(g, .inr (6, [.ref mP, .int cash, .int cnt, .ref mS, .ref mK, .ref mL, .ref mT, .ref mZ, .ref mD, .ref mH, .ref mG, .ref mC, .int cuts, .int lin, .ref m1, .ref m2, .ref m3, .ref m4, .ref mB, .int siz, .int ctr, .ref mX, .ref mY])), (mS, .inl (cI, 8, .inl st)), (mL, .inl (cZ, 8, .inl su)), (mK, .inl (cI, 8, .inl se)), (mP, .inl (cI, 64, .inl pu)), (mC, .inl (cI, 9, .inl ct)), (mX, .inl (cI, 8, .inl (upd (flF xx 1 k) k 1))), (mY, .inl (cI, 8, .inl (flF yy (fByt (se k0) i4) k))), (mD, .inl (cI, 72, .inl dd)), (mT, .inl (cI, 8, .inl tt)), (mZ, .inl (cI, 8, .inl zz)), (m1, .inl (cI, 80, .inl ks)), (m2, .inl (cI, 80, .inl ns)), (m3, .inl (cI, 80, .inl ds)), (m4, .inl (cI, 80, .inl ss))]) rfl dMO_split_128 (fun H locs hw => ?_)
    refine lv_aload_n hx hb dMO_split_129 rfl (lv_at hl 0 rfl) ?_
    refine x_get S hw (C := RMO) (T := TMO) (N := 23) inMO 0 rfl rfl 22 (by decide) xh_2_167 (v := .ref mY) rfl dMO_split_130 ?_
    refine lv_iload hx hb dMO_split_133 (lv_at hl 5 rfl) ?_
    refine lv_aload_n hx hb dMO_split_135 rfl (lv_at hl 0 rfl) ?_
    refine x_get S hw (C := RMO) (T := TMO) (N := 23) inMO 0 rfl rfl 4 (by decide) xh_2_149 (v := .ref mK) rfl dMO_split_136 ?_
    refine lv_iload_n hx hb dMO_split_139 rfl (lv_at hl 1 rfl) ?_
    refine x_iald S hw 3 0 rfl rfl (j := k0) (vp_in_nI (by omega) (by omega)) (nI_clamp (by omega)) dMO_split_140 ?_
    refine lv_iload hx hb dMO_split_141 (lv_at hl 4 rfl) ?_
    refine x_calliD (ws' := [(g, .inr (6, [.ref mP, .int cash, .int cnt, .ref mS, .ref mK, .ref mL, .ref mT, .ref mZ, .ref mD, .ref mH, .ref mG, .ref mC, .int cuts, .int lin, .ref m1, .ref m2, .ref m3, .ref m4, .ref mB, .int siz, .int ctr, .ref mX, .ref mY])), (mS, .inl (cI, 8, .inl st)), (mL, .inl (cZ, 8, .inl su)), (mK, .inl (cI, 8, .inl se)), (mP, .inl (cI, 64, .inl pu)), (mC, .inl (cI, 9, .inl ct)), (mX, .inl (cI, 8, .inl (upd (flF xx 1 k) k 1))), (mY, .inl (cI, 8, .inl (flF yy (fByt (se k0) i4) k))), (mD, .inl (cI, 72, .inl dd)), (mT, .inl (cI, 8, .inl tt)), (mZ, .inl (cI, 8, .inl zz)), (m1, .inl (cI, 80, .inl ks)), (m2, .inl (cI, 80, .inl ns)), (m3, .inl (cI, 80, .inl ds)), (m4, .inl (cI, 80, .inl ss))]) hw [] rfl rfl (x_runS (n := 2) (rest := [.int (nI k), .ref mY]) (As := [.int (se k0), .int i4]) S hw (m_byteOf l D cI cZ cV (se k0) i4 _) xh_3_30 xh_3_28 xh_3_29 xh_1_6 (by decide +kernel) ⟨by decide, by decide⟩ [] rfl rfl rfl hl.1 rfl (Nat.le_of_ble_eq_true rfl) dMO_split_143 ⟨by decide, by decide⟩) rfl rfl (fun H locs hw => ?_)
    refine x_iast S hw 7 0 rfl rfl (j := k) (vp_in_nI (by omega) (by omega)) (nI_clamp (by omega)) (ws' := [(g, .inr (6, [.ref mP, .int cash, .int cnt, .ref mS, .ref mK, .ref mL, .ref mT, .ref mZ, .ref mD, .ref mH, .ref mG, .ref mC, .int cuts, .int lin, .ref m1, .ref m2, .ref m3, .ref m4, .ref mB, .int siz, .int ctr, .ref mX, .ref mY])), (mS, .inl (cI, 8, .inl st)), (mL, .inl (cZ, 8, .inl su)), (mK, .inl (cI, 8, .inl se)), (mP, .inl (cI, 64, .inl pu)), (mC, .inl (cI, 9, .inl ct)), (mX, .inl (cI, 8, .inl (upd (flF xx 1 k) k 1))), (mY, .inl (cI, 8, .inl (upd (flF yy (fByt (se k0) i4) k) k (fByt (se k0) i4)))), (mD, .inl (cI, 72, .inl dd)), (mT, .inl (cI, 8, .inl tt)), (mZ, .inl (cI, 8, .inl zz)), (m1, .inl (cI, 80, .inl ks)), (m2, .inl (cI, 80, .inl ns)), (m3, .inl (cI, 80, .inl ds)), (m4, .inl (cI, 80, .inl ss))]) rfl dMO_split_146 (fun H locs hw => ?_)
    refine lv_iinc (v := nI (k + 1)) (lv' := [(5, .int (nI (k + 1))), (0, .ref g), (1, .int (nI k0)), (2, .int (nI (t1 + 1))), (3, .int (nI n0)), (4, .int i4)]) hx hb dMO_split_147 hl (k := 5) rfl ((nI_succ _).symm) (by decide) rfl (fun ls hl => ?_)
    refine lv_goto (tgt := 114) hx hb dMO_split_150 (by decide) ?_
    have e0 : flF xx 1 (k + 1) = upd (flF xx 1 k) k 1 := by simp only [flF]
    have e1 : flF yy (fByt (se k0) i4) (k + 1) = upd (flF yy (fByt (se k0) i4) k) k (fByt (se k0) i4) := by simp only [flF]
    refine ih (k + 1) ls H locs (by omega) ?_ ?_
    · rw [e0, e1]; exact hw
    · exact lv_sub hl [1, 2, 3, 4, 5, 0] rfl

set_option maxHeartbeats 4000000 in
set_option maxRecDepth 100000 in
theorem ml_sp3 {p : Program} {l : Launch} {e : Env} {s : State} {m : MethodId} {args : Array Value} {below : List Frame} {meth : Method} {c : Code} {Q : State → Prop} {D : va_G} {A : Nat → Prop} {cI cZ cV : ClassId} {H0 : Heap} {R : Room} {cells slots : Nat} (hR : R = (xR 2 0 0)) (hC : cells = 0 ∧ slots = 0) (S : CallFix p m c cMO_split 8 s args xAll "EscrowedVersionsModel") (g : Nat) (mP : Nat) (mS : Nat) (mK : Nat) (mL : Nat) (mT : Nat) (mZ : Nat) (mD : Nat) (mH : Nat) (mG : Nat) (mC : Nat) (m1 : Nat) (m2 : Nat) (m3 : Nat) (m4 : Nat) (mB : Nat) (mX : Nat) (mY : Nat) (cash : Int32) (cnt : Int32) (cuts : Int32) (lin : Int32) (siz : Int32) (ctr : Int32) (st : Nat → Int32) (su : Nat → Int32) (se : Nat → Int32) (pu : Nat → Int32) (ct : Nat → Int32) (xx : Nat → Int32) (yy : Nat → Int32) (dd : Nat → Int32) (tt : Nat → Int32) (zz : Nat → Int32) (ks : Nat → Int32) (ns : Nat → Int32) (ds : Nat → Int32) (ss : Nat → Int32) (i4 : Int32) (i5 : Int32) (c9 : Int32) (k0 : Nat) (t1 : Nat) (n0 : Nat)
    (kk : ∀ (ls : Array Slot) (H : Heap) (locs : List Loc), xW D (xT3 cI cZ cV) A H0 H locs [(g, .inr (6, [.ref mP, .int cash, .int cnt, .ref mS, .ref mK, .ref mL, .ref mT, .ref mZ, .ref mD, .ref mH, .ref mG, .ref mC, .int cuts, .int lin, .ref m1, .ref m2, .ref m3, .ref m4, .ref mB, .int siz, .int ctr, .ref mX, .ref mY])), (mS, .inl (cI, 8, .inl st)), (mL, .inl (cZ, 8, .inl su)), (mK, .inl (cI, 8, .inl se)), (mP, .inl (cI, 64, .inl pu)), (mC, .inl (cI, 9, .inl ct)), (mX, .inl (cI, 8, .inl (cxF xx 8))), (mY, .inl (cI, 8, .inl (cyF xx yy c9 8))), (mD, .inl (cI, 72, .inl dd)), (mT, .inl (cI, 8, .inl tt)), (mZ, .inl (cI, 8, .inl zz)), (m1, .inl (cI, 80, .inl ks)), (m2, .inl (cI, 80, .inl ns)), (m3, .inl (cI, 80, .inl ds)), (m4, .inl (cI, 80, .inl ss))] s → lv_has ls 8 [(0, .ref g), (1, .int (nI k0)), (2, .int (nI (t1 + 1))), (3, .int (nI n0)), (4, .int i4), (5, .int i5), (6, .int c9), (7, .int (nI 8))] → W p l e R s m args below meth c H locs cells slots Q (F0 m 232 ls [])) :
    ∀ (n k : Nat) (ls : Array Slot) (H : Heap) (locs : List Loc), k + n = 8 → xW D (xT3 cI cZ cV) A H0 H locs [(g, .inr (6, [.ref mP, .int cash, .int cnt, .ref mS, .ref mK, .ref mL, .ref mT, .ref mZ, .ref mD, .ref mH, .ref mG, .ref mC, .int cuts, .int lin, .ref m1, .ref m2, .ref m3, .ref m4, .ref mB, .int siz, .int ctr, .ref mX, .ref mY])), (mS, .inl (cI, 8, .inl st)), (mL, .inl (cZ, 8, .inl su)), (mK, .inl (cI, 8, .inl se)), (mP, .inl (cI, 64, .inl pu)), (mC, .inl (cI, 9, .inl ct)), (mX, .inl (cI, 8, .inl (cxF xx k))), (mY, .inl (cI, 8, .inl (cyF xx yy c9 k))), (mD, .inl (cI, 72, .inl dd)), (mT, .inl (cI, 8, .inl tt)), (mZ, .inl (cI, 8, .inl zz)), (m1, .inl (cI, 80, .inl ks)), (m2, .inl (cI, 80, .inl ns)), (m3, .inl (cI, 80, .inl ds)), (m4, .inl (cI, 80, .inl ss))] s → lv_has ls 8 [(0, .ref g), (1, .int (nI k0)), (2, .int (nI (t1 + 1))), (3, .int (nI n0)), (4, .int i4), (5, .int i5), (6, .int c9), (7, .int (nI k))] → W p l e R s m args below meth c H locs cells slots Q (F0 m 171 ls []) := by
  obtain ⟨hx, hb, hml, hown, hts⟩ := id S
  subst hR
  obtain ⟨rfl, rfl⟩ := hC
  intro n
  induction n with
  | zero =>
    intro k ls H locs hk hw hl
    obtain rfl : 8 = k := by omega
    refine lv_iload hx hb dMO_split_171 (lv_at hl 7 rfl) ?_
    refine lv_bipush (v := 8) hx hb dMO_split_173 (by decide) ?_
    refine lv_icmp_ge (tgt := 232) hx hb dMO_split_175 (by decide) (fun h175 => ?_) (fun h175 => absurd (by decide +kernel) h175)
    exact kk ls H locs hw (lv_sub hl [0, 1, 2, 3, 4, 5, 6, 7] rfl)
  | succ n ih =>
    intro k ls H locs hk hw hl
    have hkN : k < 8 := by omega
    refine lv_iload hx hb dMO_split_171 (lv_at hl 7 rfl) ?_
    refine lv_bipush (v := 8) hx hb dMO_split_173 (by decide) ?_
    refine lv_icmp_ge (tgt := 232) hx hb dMO_split_175 (by decide) (fun h175 => absurd h175 (nI_ge (b := 8) hkN (by decide))) (fun h175 => ?_)
    refine lv_aload_n hx hb dMO_split_178 rfl (lv_at hl 0 rfl) ?_
    refine x_get S hw (C := RMO) (T := TMO) (N := 23) inMO 0 rfl rfl 21 (by decide) xh_2_166 (v := .ref mX) rfl dMO_split_179 ?_
    refine lv_iload hx hb dMO_split_182 (lv_at hl 7 rfl) ?_
    refine lv_aload_n hx hb dMO_split_184 rfl (lv_at hl 0 rfl) ?_
    refine x_get S hw (C := RMO) (T := TMO) (N := 23) inMO 0 rfl rfl 21 (by decide) xh_2_166 (v := .ref mX) rfl dMO_split_185 ?_
    refine lv_iload hx hb dMO_split_188 (lv_at hl 7 rfl) ?_
    refine x_iald S hw 6 0 rfl rfl (j := k) (vp_in_nI (by omega) (by omega)) (nI_clamp (by omega)) dMO_split_190 ?_
    refine lv_iload hx hb dMO_split_191 (lv_at hl 7 rfl) ?_
    refine lv_iconst (v := 1) hx hb dMO_split_193 (by decide) ?_
    refine lv_iadd hx hb dMO_split_194 ?_
    refine x_topi (y := nI (k + 1)) ((nI_succ _).symm) ?_
    refine x_calliD (ws' := [(g, .inr (6, [.ref mP, .int cash, .int cnt, .ref mS, .ref mK, .ref mL, .ref mT, .ref mZ, .ref mD, .ref mH, .ref mG, .ref mC, .int cuts, .int lin, .ref m1, .ref m2, .ref m3, .ref m4, .ref mB, .int siz, .int ctr, .ref mX, .ref mY])), (mS, .inl (cI, 8, .inl st)), (mL, .inl (cZ, 8, .inl su)), (mK, .inl (cI, 8, .inl se)), (mP, .inl (cI, 64, .inl pu)), (mC, .inl (cI, 9, .inl ct)), (mX, .inl (cI, 8, .inl (cxF xx k))), (mY, .inl (cI, 8, .inl (cyF xx yy c9 k))), (mD, .inl (cI, 72, .inl dd)), (mT, .inl (cI, 8, .inl tt)), (mZ, .inl (cI, 8, .inl zz)), (m1, .inl (cI, 80, .inl ks)), (m2, .inl (cI, 80, .inl ns)), (m3, .inl (cI, 80, .inl ds)), (m4, .inl (cI, 80, .inl ss))]) hw [] rfl rfl (x_runS (n := 2) (rest := [.int (nI k), .ref mX]) (As := [.int ((cxF xx k) k), .int (nI (k + 1))]) S hw (m_prod l D cI cZ cV ((cxF xx k) k) (nI (k + 1)) _) xh_2_230 xh_2_228 xh_2_229 xh_1_6 (by decide +kernel) ⟨by decide, by decide⟩ [] rfl rfl rfl hl.1 rfl (Nat.le_of_ble_eq_true rfl) dMO_split_195 ⟨by decide, by decide⟩) rfl rfl (fun H locs hw => ?_)
    refine x_iast S hw 6 0 rfl rfl (j := k) (vp_in_nI (by omega) (by omega)) (nI_clamp (by omega)) (ws' := [(g, .inr (6, [.ref mP, .int cash, .int cnt, .ref mS, .ref mK, .ref mL, .ref mT, .ref mZ, .ref mD, .ref mH, .ref mG, .ref mC, .int cuts, .int lin, .ref m1, .ref m2, .ref m3, .ref m4, .ref mB, .int siz, .int ctr, .ref mX, .ref mY])), (mS, .inl (cI, 8, .inl st)), (mL, .inl (cZ, 8, .inl su)), (mK, .inl (cI, 8, .inl se)), (mP, .inl (cI, 64, .inl pu)), (mC, .inl (cI, 9, .inl ct)), (mX, .inl (cI, 8, .inl (upd (cxF xx k) k (fProd ((cxF xx k) k) (nI (k + 1)))))), (mY, .inl (cI, 8, .inl (cyF xx yy c9 k))), (mD, .inl (cI, 72, .inl dd)), (mT, .inl (cI, 8, .inl tt)), (mZ, .inl (cI, 8, .inl zz)), (m1, .inl (cI, 80, .inl ks)), (m2, .inl (cI, 80, .inl ns)), (m3, .inl (cI, 80, .inl ds)), (m4, .inl (cI, 80, .inl ss))]) rfl dMO_split_198 (fun H locs hw => ?_)
    refine lv_aload_n hx hb dMO_split_199 rfl (lv_at hl 0 rfl) ?_
    refine x_get S hw (C := RMO) (T := TMO) (N := 23) inMO 0 rfl rfl 22 (by decide) xh_2_167 (v := .ref mY) rfl dMO_split_200 ?_
    refine lv_iload hx hb dMO_split_203 (lv_at hl 7 rfl) ?_
    refine lv_aload_n hx hb dMO_split_205 rfl (lv_at hl 0 rfl) ?_
    refine x_get S hw (C := RMO) (T := TMO) (N := 23) inMO 0 rfl rfl 22 (by decide) xh_2_167 (v := .ref mY) rfl dMO_split_206 ?_
    refine lv_iload hx hb dMO_split_209 (lv_at hl 7 rfl) ?_
    refine x_iald S hw 7 0 rfl rfl (j := k) (vp_in_nI (by omega) (by omega)) (nI_clamp (by omega)) dMO_split_211 ?_
    refine lv_iload hx hb dMO_split_212 (lv_at hl 6 rfl) ?_
    refine lv_aload_n hx hb dMO_split_214 rfl (lv_at hl 0 rfl) ?_
    refine x_get S hw (C := RMO) (T := TMO) (N := 23) inMO 0 rfl rfl 21 (by decide) xh_2_166 (v := .ref mX) rfl dMO_split_215 ?_
    refine lv_iload hx hb dMO_split_218 (lv_at hl 7 rfl) ?_
    refine x_iald S hw 6 0 rfl rfl (j := k) (vp_in_nI (by omega) (by omega)) (nI_clamp (by omega)) dMO_split_220 ?_
    refine x_calliD (ws' := [(g, .inr (6, [.ref mP, .int cash, .int cnt, .ref mS, .ref mK, .ref mL, .ref mT, .ref mZ, .ref mD, .ref mH, .ref mG, .ref mC, .int cuts, .int lin, .ref m1, .ref m2, .ref m3, .ref m4, .ref mB, .int siz, .int ctr, .ref mX, .ref mY])), (mS, .inl (cI, 8, .inl st)), (mL, .inl (cZ, 8, .inl su)), (mK, .inl (cI, 8, .inl se)), (mP, .inl (cI, 64, .inl pu)), (mC, .inl (cI, 9, .inl ct)), (mX, .inl (cI, 8, .inl (upd (cxF xx k) k (fProd ((cxF xx k) k) (nI (k + 1)))))), (mY, .inl (cI, 8, .inl (cyF xx yy c9 k))), (mD, .inl (cI, 72, .inl dd)), (mT, .inl (cI, 8, .inl tt)), (mZ, .inl (cI, 8, .inl zz)), (m1, .inl (cI, 80, .inl ks)), (m2, .inl (cI, 80, .inl ns)), (m3, .inl (cI, 80, .inl ds)), (m4, .inl (cI, 80, .inl ss))]) hw [] rfl rfl (x_runS (n := 2) (rest := [.int ((cyF xx yy c9 k) k), .int (nI k), .ref mY]) (As := [.int c9, .int ((upd (cxF xx k) k (fProd ((cxF xx k) k) (nI (k + 1)))) k)]) S hw (m_prod l D cI cZ cV c9 ((upd (cxF xx k) k (fProd ((cxF xx k) k) (nI (k + 1)))) k) _) xh_2_230 xh_2_228 xh_2_229 xh_1_6 (by decide +kernel) ⟨by decide, by decide⟩ [] rfl rfl rfl hl.1 rfl (Nat.le_of_ble_eq_true rfl) dMO_split_221 ⟨by decide, by decide⟩) rfl rfl (fun H locs hw => ?_)
    refine lv_ixor hx hb dMO_split_224 ?_
    refine x_iast S hw 7 0 rfl rfl (j := k) (vp_in_nI (by omega) (by omega)) (nI_clamp (by omega)) (ws' := [(g, .inr (6, [.ref mP, .int cash, .int cnt, .ref mS, .ref mK, .ref mL, .ref mT, .ref mZ, .ref mD, .ref mH, .ref mG, .ref mC, .int cuts, .int lin, .ref m1, .ref m2, .ref m3, .ref m4, .ref mB, .int siz, .int ctr, .ref mX, .ref mY])), (mS, .inl (cI, 8, .inl st)), (mL, .inl (cZ, 8, .inl su)), (mK, .inl (cI, 8, .inl se)), (mP, .inl (cI, 64, .inl pu)), (mC, .inl (cI, 9, .inl ct)), (mX, .inl (cI, 8, .inl (upd (cxF xx k) k (fProd ((cxF xx k) k) (nI (k + 1)))))), (mY, .inl (cI, 8, .inl (upd (cyF xx yy c9 k) k (((cyF xx yy c9 k) k) ^^^ (fProd c9 ((upd (cxF xx k) k (fProd ((cxF xx k) k) (nI (k + 1)))) k)))))), (mD, .inl (cI, 72, .inl dd)), (mT, .inl (cI, 8, .inl tt)), (mZ, .inl (cI, 8, .inl zz)), (m1, .inl (cI, 80, .inl ks)), (m2, .inl (cI, 80, .inl ns)), (m3, .inl (cI, 80, .inl ds)), (m4, .inl (cI, 80, .inl ss))]) rfl dMO_split_225 (fun H locs hw => ?_)
    refine lv_iinc (v := nI (k + 1)) (lv' := [(7, .int (nI (k + 1))), (0, .ref g), (1, .int (nI k0)), (2, .int (nI (t1 + 1))), (3, .int (nI n0)), (4, .int i4), (5, .int i5), (6, .int c9)]) hx hb dMO_split_226 hl (k := 7) rfl ((nI_succ _).symm) (by decide) rfl (fun ls hl => ?_)
    refine lv_goto (tgt := 171) hx hb dMO_split_229 (by decide) ?_
    have e0 : cxF xx (k + 1) = upd (cxF xx k) k (fProd ((cxF xx k) k) (nI (k + 1))) := by simp only [cxF, cyF]
    have e1 : cyF xx yy c9 (k + 1) = upd (cyF xx yy c9 k) k (((cyF xx yy c9 k) k) ^^^ (fProd c9 ((upd (cxF xx k) k (fProd ((cxF xx k) k) (nI (k + 1)))) k))) := by simp only [cxF, cyF]
    refine ih (k + 1) ls H locs (by omega) ?_ ?_
    · rw [e0, e1]; exact hw
    · exact lv_sub hl [1, 2, 3, 4, 5, 6, 7, 0] rfl

set_option maxHeartbeats 4000000 in
set_option maxRecDepth 100000 in
theorem ml_sp4 {p : Program} {l : Launch} {e : Env} {s : State} {m : MethodId} {args : Array Value} {below : List Frame} {meth : Method} {c : Code} {Q : State → Prop} {D : va_G} {A : Nat → Prop} {cI cZ cV : ClassId} {H0 : Heap} {R : Room} {cells slots : Nat} (hR : R = (xR 2 0 0)) (hC : cells = 0 ∧ slots = 0) (S : CallFix p m c cMO_split 8 s args xAll "EscrowedVersionsModel") (g : Nat) (mP : Nat) (mS : Nat) (mK : Nat) (mL : Nat) (mT : Nat) (mZ : Nat) (mD : Nat) (mH : Nat) (mG : Nat) (mC : Nat) (m1 : Nat) (m2 : Nat) (m3 : Nat) (m4 : Nat) (mB : Nat) (mX : Nat) (mY : Nat) (cnt : Int32) (cuts : Int32) (lin : Int32) (siz : Int32) (ctr : Int32) (st : Nat → Int32) (su : Nat → Int32) (se : Nat → Int32) (pu : Nat → Int32) (ct : Nat → Int32) (xx : Nat → Int32) (yy : Nat → Int32) (dd : Nat → Int32) (tt : Nat → Int32) (zz : Nat → Int32) (ks : Nat → Int32) (ns : Nat → Int32) (ds : Nat → Int32) (ss : Nat → Int32) (i4 : Int32) (T0 : Nat) (b0 : Nat) (c0 : Nat) (k0 : Nat) (t1 : Nat) (n0 : Nat) (hT : b0 + t1 + c0 = T0) (hT2 : T0 ≤ 64) (ht : t1 ≤ 7)
    (kk : ∀ (ls : Array Slot) (H : Heap) (locs : List Loc), xW D (xT3 cI cZ cV) A H0 H locs [(g, .inr (6, [.ref mP, .int (nI (c0 + 0)), .int cnt, .ref mS, .ref mK, .ref mL, .ref mT, .ref mZ, .ref mD, .ref mH, .ref mG, .ref mC, .int cuts, .int lin, .ref m1, .ref m2, .ref m3, .ref m4, .ref mB, .int siz, .int ctr, .ref mX, .ref mY])), (mS, .inl (cI, 8, .inl st)), (mL, .inl (cZ, 8, .inl su)), (mK, .inl (cI, 8, .inl se)), (mP, .inl (cI, 64, .inl (pyR pu T0 (b0 + t1)))), (mC, .inl (cI, 9, .inl ct)), (mX, .inl (cI, 8, .inl (bxF xx t1))), (mY, .inl (cI, 8, .inl (byF xx yy pu T0 b0 t1))), (mD, .inl (cI, 72, .inl dd)), (mT, .inl (cI, 8, .inl tt)), (mZ, .inl (cI, 8, .inl zz)), (m1, .inl (cI, 80, .inl ks)), (m2, .inl (cI, 80, .inl ns)), (m3, .inl (cI, 80, .inl ds)), (m4, .inl (cI, 80, .inl ss))] s → lv_has ls 8 [(0, .ref g), (1, .int (nI k0)), (2, .int (nI (t1 + 1))), (3, .int (nI n0)), (4, .int i4), (5, .int (nI (t1 + 1)))] → W p l e R s m args below meth c H locs cells slots Q (F0 m 238 ls [])) :
    ∀ (n k : Nat) (ls : Array Slot) (H : Heap) (locs : List Loc), k + n = t1 → xW D (xT3 cI cZ cV) A H0 H locs [(g, .inr (6, [.ref mP, .int (nI (c0 + n)), .int cnt, .ref mS, .ref mK, .ref mL, .ref mT, .ref mZ, .ref mD, .ref mH, .ref mG, .ref mC, .int cuts, .int lin, .ref m1, .ref m2, .ref m3, .ref m4, .ref mB, .int siz, .int ctr, .ref mX, .ref mY])), (mS, .inl (cI, 8, .inl st)), (mL, .inl (cZ, 8, .inl su)), (mK, .inl (cI, 8, .inl se)), (mP, .inl (cI, 64, .inl (pyR pu T0 (b0 + k)))), (mC, .inl (cI, 9, .inl ct)), (mX, .inl (cI, 8, .inl (bxF xx k))), (mY, .inl (cI, 8, .inl (byF xx yy pu T0 b0 k))), (mD, .inl (cI, 72, .inl dd)), (mT, .inl (cI, 8, .inl tt)), (mZ, .inl (cI, 8, .inl zz)), (m1, .inl (cI, 80, .inl ks)), (m2, .inl (cI, 80, .inl ns)), (m3, .inl (cI, 80, .inl ds)), (m4, .inl (cI, 80, .inl ss))] s → lv_has ls 8 [(0, .ref g), (1, .int (nI k0)), (2, .int (nI (t1 + 1))), (3, .int (nI n0)), (4, .int i4), (5, .int (nI (k + 1)))] → W p l e R s m args below meth c H locs cells slots Q (F0 m 156 ls []) := by
  obtain ⟨hx, hb, hml, hown, hts⟩ := id S
  subst hR
  obtain ⟨rfl, rfl⟩ := hC
  intro n
  induction n with
  | zero =>
    intro k ls H locs hk hw hl
    obtain rfl : t1 = k := by omega
    refine lv_iload hx hb dMO_split_156 (lv_at hl 5 rfl) ?_
    refine lv_iload_n hx hb dMO_split_158 rfl (lv_at hl 2 rfl) ?_
    refine lv_icmp_ge (tgt := 238) hx hb dMO_split_159 (by decide) (fun h159 => ?_) (fun h159 => absurd (nI_le (Nat.le_refl _) (by omega)) h159)
    exact kk ls H locs hw (lv_sub hl [0, 1, 2, 3, 4, 5] rfl)
  | succ n ih =>
    intro k ls H locs hk hw hl
    have hkN : k < t1 := by omega
    refine lv_iload hx hb dMO_split_156 (lv_at hl 5 rfl) ?_
    refine lv_iload_n hx hb dMO_split_158 rfl (lv_at hl 2 rfl) ?_
    refine lv_icmp_ge (tgt := 238) hx hb dMO_split_159 (by decide) (fun h159 => absurd h159 (nI_ge (by omega) (by omega))) (fun h159 => ?_)
    refine lv_aload_n hx hb dMO_split_162 rfl (lv_at hl 0 rfl) ?_
    refine x_calliD (ws' := [(g, .inr (6, [.ref mP, .int (nI (c0 + n)), .int cnt, .ref mS, .ref mK, .ref mL, .ref mT, .ref mZ, .ref mD, .ref mH, .ref mG, .ref mC, .int cuts, .int lin, .ref m1, .ref m2, .ref m3, .ref m4, .ref mB, .int siz, .int ctr, .ref mX, .ref mY])), (mS, .inl (cI, 8, .inl st)), (mL, .inl (cZ, 8, .inl su)), (mK, .inl (cI, 8, .inl se)), (mP, .inl (cI, 64, .inl (pyF (pyR pu T0 (b0 + k)) (c0 + n)))), (mC, .inl (cI, 9, .inl ct)), (mX, .inl (cI, 8, .inl (bxF xx k))), (mY, .inl (cI, 8, .inl (byF xx yy pu T0 b0 k))), (mD, .inl (cI, 72, .inl dd)), (mT, .inl (cI, 8, .inl tt)), (mZ, .inl (cI, 8, .inl zz)), (m1, .inl (cI, 80, .inl ks)), (m2, .inl (cI, 80, .inl ns)), (m3, .inl (cI, 80, .inl ds)), (m4, .inl (cI, 80, .inl ss))]) hw [0, 4] rfl rfl (x_runV (n := 0) (rest := []) (As := []) S hw (m_pay l D cI cZ cV g mP mS mK mL mT mZ mD mH mG mC m1 m2 m3 m4 mB mX mY cnt cuts lin siz ctr (pyR pu T0 (b0 + k)) (c0 + n) (by omega) _) xh_3_2 xh_2_239 xh_3_1 xsel_MO_pay xh_1_6 (by decide +kernel) ⟨by decide, by decide⟩ [0, 4] rfl rfl (ci := 6) (q0 := 0) rfl rfl rfl hl.1 rfl (Nat.le_of_ble_eq_true rfl) dMO_split_163 ⟨by decide, by decide⟩) rfl rfl (fun H locs hw => ?_)
    refine lv_istore (lv' := [(6, .int ((pyR pu T0 (b0 + k)) 0)), (0, .ref g), (1, .int (nI k0)), (2, .int (nI (t1 + 1))), (3, .int (nI n0)), (4, .int i4), (5, .int (nI (k + 1)))]) hx hb dMO_split_166 hl (by decide) rfl (fun ls hl => ?_)
    refine lv_iconst (v := 0) hx hb dMO_split_168 (by decide) ?_
    refine lv_istore (lv' := [(7, .int 0), (6, .int ((pyR pu T0 (b0 + k)) 0)), (0, .ref g), (1, .int (nI k0)), (2, .int (nI (t1 + 1))), (3, .int (nI n0)), (4, .int i4), (5, .int (nI (k + 1)))]) hx hb dMO_split_169 hl (by decide) rfl (fun ls hl => ?_)
    refine ml_sp3 rfl ⟨rfl, rfl⟩ S g mP mS mK mL mT mZ mD mH mG mC m1 m2 m3 m4 mB mX mY (nI (c0 + n)) cnt cuts lin siz ctr st su se (pyF (pyR pu T0 (b0 + k)) (c0 + n)) ct (bxF xx k) (byF xx yy pu T0 b0 k) dd tt zz ks ns ds ss i4 (nI (k + 1)) (pyR pu T0 (b0 + k) 0) k0 t1 n0 (fun ls H locs hw hl => ?_) 8 0 ls _ _ (Nat.zero_add _) hw (lv_sub hl [2, 3, 4, 5, 6, 7, 1, 0] rfl)
    refine lv_iinc (v := nI ((k + 1) + 1)) (lv' := [(5, .int (nI ((k + 1) + 1))), (0, .ref g), (1, .int (nI k0)), (2, .int (nI (t1 + 1))), (3, .int (nI n0)), (4, .int i4), (6, .int (pyR pu T0 (b0 + k) 0)), (7, .int (nI 8))]) hx hb dMO_split_232 hl (k := 5) rfl ((nI_succ _).symm) (by decide) rfl (fun ls hl => ?_)
    refine lv_goto (tgt := 156) hx hb dMO_split_235 (by decide) ?_
    have e0 : pyR pu T0 (b0 + (k + 1)) = pyF (pyR pu T0 (b0 + k)) (c0 + n) := by show pyF (pyR pu T0 (b0 + k)) (T0 - 1 - (b0 + k)) = _; rw [show T0 - 1 - (b0 + k) = c0 + n by omega]
    have e1 : bxF xx (k + 1) = cxF (bxF xx k) 8 := by simp only [bxF, byF]
    have e2 : byF xx yy pu T0 b0 (k + 1) = cyF (bxF xx k) (byF xx yy pu T0 b0 k) (pyR pu T0 (b0 + k) 0) 8 := by simp only [bxF, byF]
    refine ih (k + 1) ls H locs (by omega) ?_ ?_
    · rw [e0, e1, e2]; exact hw
    · exact lv_sub hl [1, 2, 3, 4, 5, 0] rfl

set_option maxHeartbeats 4000000 in
set_option maxRecDepth 100000 in
theorem ml_sp5 {p : Program} {l : Launch} {e : Env} {s : State} {m : MethodId} {args : Array Value} {below : List Frame} {meth : Method} {c : Code} {Q : State → Prop} {D : va_G} {A : Nat → Prop} {cI cZ cV : ClassId} {H0 : Heap} {R : Room} {cells slots : Nat} (hR : R = (xR 2 0 0)) (hC : cells = 0 ∧ slots = 0) (S : CallFix p m c cMO_split 8 s args xAll "EscrowedVersionsModel") (g : Nat) (mP : Nat) (mS : Nat) (mK : Nat) (mL : Nat) (mT : Nat) (mZ : Nat) (mD : Nat) (mH : Nat) (mG : Nat) (mC : Nat) (m1 : Nat) (m2 : Nat) (m3 : Nat) (m4 : Nat) (mB : Nat) (mX : Nat) (mY : Nat) (cash : Int32) (cnt : Int32) (cuts : Int32) (lin : Int32) (siz : Int32) (ctr : Int32) (st : Nat → Int32) (su : Nat → Int32) (se : Nat → Int32) (pu : Nat → Int32) (ct : Nat → Int32) (xx : Nat → Int32) (yy : Nat → Int32) (dd : Nat → Int32) (tt : Nat → Int32) (zz : Nat → Int32) (ks : Nat → Int32) (ns : Nat → Int32) (ds : Nat → Int32) (ss : Nat → Int32) (i4 : Int32) (k0 : Nat) (t1 : Nat) (n0 : Nat) (hn : n0 ≤ 8)
    (kk : ∀ (ls : Array Slot) (H : Heap) (locs : List Loc), xW D (xT3 cI cZ cV) A H0 H locs [(g, .inr (6, [.ref mP, .int cash, .int cnt, .ref mS, .ref mK, .ref mL, .ref mT, .ref mZ, .ref mD, .ref mH, .ref mG, .ref mC, .int cuts, .int lin, .ref m1, .ref m2, .ref m3, .ref m4, .ref mB, .int siz, .int ctr, .ref mX, .ref mY])), (mS, .inl (cI, 8, .inl st)), (mL, .inl (cZ, 8, .inl su)), (mK, .inl (cI, 8, .inl se)), (mP, .inl (cI, 64, .inl pu)), (mC, .inl (cI, 9, .inl (ctF ct yy n0))), (mX, .inl (cI, 8, .inl xx)), (mY, .inl (cI, 8, .inl yy)), (mD, .inl (cI, 72, .inl dd)), (mT, .inl (cI, 8, .inl tt)), (mZ, .inl (cI, 8, .inl zz)), (m1, .inl (cI, 80, .inl ks)), (m2, .inl (cI, 80, .inl ns)), (m3, .inl (cI, 80, .inl ds)), (m4, .inl (cI, 80, .inl ss))] s → lv_has ls 8 [(0, .ref g), (1, .int (nI k0)), (2, .int (nI (t1 + 1))), (3, .int (nI n0)), (4, .int i4), (5, .int (nI n0))] → W p l e R s m args below meth c H locs cells slots Q (F0 m 282 ls [])) :
    ∀ (n k : Nat) (ls : Array Slot) (H : Heap) (locs : List Loc), k + n = n0 → xW D (xT3 cI cZ cV) A H0 H locs [(g, .inr (6, [.ref mP, .int cash, .int cnt, .ref mS, .ref mK, .ref mL, .ref mT, .ref mZ, .ref mD, .ref mH, .ref mG, .ref mC, .int cuts, .int lin, .ref m1, .ref m2, .ref m3, .ref m4, .ref mB, .int siz, .int ctr, .ref mX, .ref mY])), (mS, .inl (cI, 8, .inl st)), (mL, .inl (cZ, 8, .inl su)), (mK, .inl (cI, 8, .inl se)), (mP, .inl (cI, 64, .inl pu)), (mC, .inl (cI, 9, .inl (ctF ct yy k))), (mX, .inl (cI, 8, .inl xx)), (mY, .inl (cI, 8, .inl yy)), (mD, .inl (cI, 72, .inl dd)), (mT, .inl (cI, 8, .inl tt)), (mZ, .inl (cI, 8, .inl zz)), (m1, .inl (cI, 80, .inl ks)), (m2, .inl (cI, 80, .inl ns)), (m3, .inl (cI, 80, .inl ds)), (m4, .inl (cI, 80, .inl ss))] s → lv_has ls 8 [(0, .ref g), (1, .int (nI k0)), (2, .int (nI (t1 + 1))), (3, .int (nI n0)), (4, .int i4), (5, .int (nI k))] → W p l e R s m args below meth c H locs cells slots Q (F0 m 241 ls []) := by
  obtain ⟨hx, hb, hml, hown, hts⟩ := id S
  subst hR
  obtain ⟨rfl, rfl⟩ := hC
  intro n
  induction n with
  | zero =>
    intro k ls H locs hk hw hl
    obtain rfl : n0 = k := by omega
    refine lv_iload hx hb dMO_split_241 (lv_at hl 5 rfl) ?_
    refine lv_iload_n hx hb dMO_split_243 rfl (lv_at hl 3 rfl) ?_
    refine lv_icmp_ge (tgt := 282) hx hb dMO_split_244 (by decide) (fun h244 => ?_) (fun h244 => absurd (nI_le (Nat.le_refl _) (by omega)) h244)
    exact kk ls H locs hw (lv_sub hl [0, 1, 2, 3, 4, 5] rfl)
  | succ n ih =>
    intro k ls H locs hk hw hl
    have hkN : k < n0 := by omega
    refine lv_iload hx hb dMO_split_241 (lv_at hl 5 rfl) ?_
    refine lv_iload_n hx hb dMO_split_243 rfl (lv_at hl 3 rfl) ?_
    refine lv_icmp_ge (tgt := 282) hx hb dMO_split_244 (by decide) (fun h244 => absurd h244 (nI_ge hkN (by omega))) (fun h244 => ?_)
    refine lv_aload_n hx hb dMO_split_247 rfl (lv_at hl 0 rfl) ?_
    refine x_get S hw (C := RMO) (T := TMO) (N := 23) inMO 0 rfl rfl 11 (by decide) xh_2_156 (v := .ref mC) rfl dMO_split_248 ?_
    refine lv_iload hx hb dMO_split_251 (lv_at hl 5 rfl) ?_
    refine lv_iconst (v := 1) hx hb dMO_split_253 (by decide) ?_
    refine lv_iadd hx hb dMO_split_254 ?_
    refine x_topi (y := nI (k + 1)) ((nI_succ _).symm) ?_
    refine lv_aload_n hx hb dMO_split_255 rfl (lv_at hl 0 rfl) ?_
    refine x_get S hw (C := RMO) (T := TMO) (N := 23) inMO 0 rfl rfl 11 (by decide) xh_2_156 (v := .ref mC) rfl dMO_split_256 ?_
    refine lv_iload hx hb dMO_split_259 (lv_at hl 5 rfl) ?_
    refine lv_iconst (v := 1) hx hb dMO_split_261 (by decide) ?_
    refine lv_iadd hx hb dMO_split_262 ?_
    refine x_topi (y := nI (k + 1)) ((nI_succ _).symm) ?_
    refine x_iald S hw 5 0 rfl rfl (j := (k + 1)) (vp_in_nI (by omega) (by omega)) (nI_clamp (by omega)) dMO_split_263 ?_
    refine lv_bipush (v := 8) hx hb dMO_split_264 (by decide) ?_
    refine lv_ishl hx hb dMO_split_266 ?_
    refine lv_aload_n hx hb dMO_split_267 rfl (lv_at hl 0 rfl) ?_
    refine x_get S hw (C := RMO) (T := TMO) (N := 23) inMO 0 rfl rfl 22 (by decide) xh_2_167 (v := .ref mY) rfl dMO_split_268 ?_
    refine lv_iload hx hb dMO_split_271 (lv_at hl 5 rfl) ?_
    refine x_iald S hw 7 0 rfl rfl (j := k) (vp_in_nI (by omega) (by omega)) (nI_clamp (by omega)) dMO_split_273 ?_
    refine lv_ior hx hb dMO_split_274 ?_
    refine x_iast S hw 5 0 rfl rfl (j := (k + 1)) (vp_in_nI (by omega) (by omega)) (nI_clamp (by omega)) (ws' := [(g, .inr (6, [.ref mP, .int cash, .int cnt, .ref mS, .ref mK, .ref mL, .ref mT, .ref mZ, .ref mD, .ref mH, .ref mG, .ref mC, .int cuts, .int lin, .ref m1, .ref m2, .ref m3, .ref m4, .ref mB, .int siz, .int ctr, .ref mX, .ref mY])), (mS, .inl (cI, 8, .inl st)), (mL, .inl (cZ, 8, .inl su)), (mK, .inl (cI, 8, .inl se)), (mP, .inl (cI, 64, .inl pu)), (mC, .inl (cI, 9, .inl (upd (ctF ct yy k) (k + 1) ((((ctF ct yy k) (k + 1)) <<< ((8 : Int32) &&& 31)) ||| (yy k))))), (mX, .inl (cI, 8, .inl xx)), (mY, .inl (cI, 8, .inl yy)), (mD, .inl (cI, 72, .inl dd)), (mT, .inl (cI, 8, .inl tt)), (mZ, .inl (cI, 8, .inl zz)), (m1, .inl (cI, 80, .inl ks)), (m2, .inl (cI, 80, .inl ns)), (m3, .inl (cI, 80, .inl ds)), (m4, .inl (cI, 80, .inl ss))]) rfl dMO_split_275 (fun H locs hw => ?_)
    refine lv_iinc (v := nI (k + 1)) (lv' := [(5, .int (nI (k + 1))), (0, .ref g), (1, .int (nI k0)), (2, .int (nI (t1 + 1))), (3, .int (nI n0)), (4, .int i4)]) hx hb dMO_split_276 hl (k := 5) rfl ((nI_succ _).symm) (by decide) rfl (fun ls hl => ?_)
    refine lv_goto (tgt := 241) hx hb dMO_split_279 (by decide) ?_
    have e0 : ctF ct yy (k + 1) = upd (ctF ct yy k) (k + 1) ((((ctF ct yy k) (k + 1)) <<< ((8 : Int32) &&& 31)) ||| (yy k)) := by simp only [ctF]
    refine ih (k + 1) ls H locs (by omega) ?_ ?_
    · rw [e0]; exact hw
    · exact lv_sub hl [1, 2, 3, 4, 5, 0] rfl

set_option maxHeartbeats 4000000 in
set_option maxRecDepth 100000 in
theorem ml_sp6 {p : Program} {l : Launch} {e : Env} {s : State} {m : MethodId} {args : Array Value} {below : List Frame} {meth : Method} {c : Code} {Q : State → Prop} {D : va_G} {A : Nat → Prop} {cI cZ cV : ClassId} {H0 : Heap} {R : Room} {cells slots : Nat} (hR : R = (xR 2 0 0)) (hC : cells = 0 ∧ slots = 0) (S : CallFix p m c cMO_split 8 s args xAll "EscrowedVersionsModel") (g : Nat) (mP : Nat) (mS : Nat) (mK : Nat) (mL : Nat) (mT : Nat) (mZ : Nat) (mD : Nat) (mH : Nat) (mG : Nat) (mC : Nat) (m1 : Nat) (m2 : Nat) (m3 : Nat) (m4 : Nat) (mB : Nat) (mX : Nat) (mY : Nat) (cnt : Int32) (cuts : Int32) (lin : Int32) (siz : Int32) (ctr : Int32) (st : Nat → Int32) (su : Nat → Int32) (se : Nat → Int32) (pu : Nat → Int32) (ct : Nat → Int32) (xx : Nat → Int32) (yy : Nat → Int32) (dd : Nat → Int32) (tt : Nat → Int32) (zz : Nat → Int32) (ks : Nat → Int32) (ns : Nat → Int32) (ds : Nat → Int32) (ss : Nat → Int32) (T0 : Nat) (c0 : Nat) (k0 : Nat) (t1 : Nat) (n0 : Nat) (hk0 : k0 < 8) (hT : c0 + 4 * t1 = T0) (hT2 : T0 ≤ 64) (ht : t1 ≤ 7) (hn : n0 ≤ 8)
    (kk : ∀ (ls : Array Slot) (H : Heap) (locs : List Loc), xW D (xT3 cI cZ cV) A H0 H locs [(g, .inr (6, [.ref mP, .int (nI (c0 + 0 * t1)), .int cnt, .ref mS, .ref mK, .ref mL, .ref mT, .ref mZ, .ref mD, .ref mH, .ref mG, .ref mC, .int cuts, .int lin, .ref m1, .ref m2, .ref m3, .ref m4, .ref mB, .int siz, .int ctr, .ref mX, .ref mY])), (mS, .inl (cI, 8, .inl st)), (mL, .inl (cZ, 8, .inl su)), (mK, .inl (cI, 8, .inl se)), (mP, .inl (cI, 64, .inl (pyR pu T0 (4 * t1)))), (mC, .inl (cI, 9, .inl ((moF ct xx yy pu T0 t1 n0 (se k0) 4).1))), (mX, .inl (cI, 8, .inl ((moF ct xx yy pu T0 t1 n0 (se k0) 4).2.1))), (mY, .inl (cI, 8, .inl ((moF ct xx yy pu T0 t1 n0 (se k0) 4).2.2))), (mD, .inl (cI, 72, .inl dd)), (mT, .inl (cI, 8, .inl tt)), (mZ, .inl (cI, 8, .inl zz)), (m1, .inl (cI, 80, .inl ks)), (m2, .inl (cI, 80, .inl ns)), (m3, .inl (cI, 80, .inl ds)), (m4, .inl (cI, 80, .inl ss))] s → lv_has ls 8 [(0, .ref g), (1, .int (nI k0)), (2, .int (nI (t1 + 1))), (3, .int (nI n0)), (4, .int (nI 4))] → W p l e R s m args below meth c H locs cells slots Q (F0 m 288 ls [])) :
    ∀ (n k : Nat) (ls : Array Slot) (H : Heap) (locs : List Loc), k + n = 4 → xW D (xT3 cI cZ cV) A H0 H locs [(g, .inr (6, [.ref mP, .int (nI (c0 + n * t1)), .int cnt, .ref mS, .ref mK, .ref mL, .ref mT, .ref mZ, .ref mD, .ref mH, .ref mG, .ref mC, .int cuts, .int lin, .ref m1, .ref m2, .ref m3, .ref m4, .ref mB, .int siz, .int ctr, .ref mX, .ref mY])), (mS, .inl (cI, 8, .inl st)), (mL, .inl (cZ, 8, .inl su)), (mK, .inl (cI, 8, .inl se)), (mP, .inl (cI, 64, .inl (pyR pu T0 (k * t1)))), (mC, .inl (cI, 9, .inl ((moF ct xx yy pu T0 t1 n0 (se k0) k).1))), (mX, .inl (cI, 8, .inl ((moF ct xx yy pu T0 t1 n0 (se k0) k).2.1))), (mY, .inl (cI, 8, .inl ((moF ct xx yy pu T0 t1 n0 (se k0) k).2.2))), (mD, .inl (cI, 72, .inl dd)), (mT, .inl (cI, 8, .inl tt)), (mZ, .inl (cI, 8, .inl zz)), (m1, .inl (cI, 80, .inl ks)), (m2, .inl (cI, 80, .inl ns)), (m3, .inl (cI, 80, .inl ds)), (m4, .inl (cI, 80, .inl ss))] s → lv_has ls 8 [(0, .ref g), (1, .int (nI k0)), (2, .int (nI (t1 + 1))), (3, .int (nI n0)), (4, .int (nI k))] → W p l e R s m args below meth c H locs cells slots Q (F0 m 105 ls []) := by
  obtain ⟨hx, hb, hml, hown, hts⟩ := id S
  subst hR
  obtain ⟨rfl, rfl⟩ := hC
  intro n
  induction n with
  | zero =>
    intro k ls H locs hk hw hl
    obtain rfl : 4 = k := by omega
    refine lv_iload hx hb dMO_split_105 (lv_at hl 4 rfl) ?_
    refine lv_iconst (v := 4) hx hb dMO_split_107 (by decide) ?_
    refine lv_icmp_ge (tgt := 288) hx hb dMO_split_108 (by decide) (fun h108 => ?_) (fun h108 => absurd (by decide +kernel) h108)
    exact kk ls H locs hw (lv_sub hl [0, 1, 2, 3, 4] rfl)
  | succ n ih =>
    intro k ls H locs hk hw hl
    have hkN : k < 4 := by omega
    refine lv_iload hx hb dMO_split_105 (lv_at hl 4 rfl) ?_
    refine lv_iconst (v := 4) hx hb dMO_split_107 (by decide) ?_
    refine lv_icmp_ge (tgt := 288) hx hb dMO_split_108 (by decide) (fun h108 => absurd h108 (nI_ge (b := 4) hkN (by decide))) (fun h108 => ?_)
    refine lv_iconst (v := 0) hx hb dMO_split_111 (by decide) ?_
    refine lv_istore (lv' := [(5, .int 0), (0, .ref g), (1, .int (nI k0)), (2, .int (nI (t1 + 1))), (3, .int (nI n0)), (4, .int (nI k))]) hx hb dMO_split_112 hl (by decide) rfl (fun ls hl => ?_)
    refine ml_sp2 rfl ⟨rfl, rfl⟩ S g mP mS mK mL mT mZ mD mH mG mC m1 m2 m3 m4 mB mX mY (nI (c0 + (n + 1) * t1)) cnt cuts lin siz ctr st su se (pyR pu T0 (k * t1)) ((moF ct xx yy pu T0 t1 n0 (se k0) k).1) ((moF ct xx yy pu T0 t1 n0 (se k0) k).2.1) ((moF ct xx yy pu T0 t1 n0 (se k0) k).2.2) dd tt zz ks ns ds ss (nI k) k0 t1 n0 hk0 (fun ls H locs hw hl => ?_) 8 0 ls _ _ (Nat.zero_add _) hw (lv_sub hl [1, 2, 3, 4, 5, 0] rfl)
    refine lv_iconst (v := 1) hx hb dMO_split_153 (by decide) ?_
    refine lv_istore (lv' := [(5, .int 1), (0, .ref g), (1, .int (nI k0)), (2, .int (nI (t1 + 1))), (3, .int (nI n0)), (4, .int (nI k))]) hx hb dMO_split_154 hl (by decide) rfl (fun ls hl => ?_)
    rw [show c0 + (n + 1) * t1 = (c0 + n * t1) + t1 by rw [Nat.succ_mul, Nat.add_assoc]] at hw
    refine ml_sp4 rfl ⟨rfl, rfl⟩ S g mP mS mK mL mT mZ mD mH mG mC m1 m2 m3 m4 mB mX mY cnt cuts lin siz ctr st su se pu ((moF ct xx yy pu T0 t1 n0 (se k0) k).1) (flF (moF ct xx yy pu T0 t1 n0 (se k0) k).2.1 1 8) (flF (moF ct xx yy pu T0 t1 n0 (se k0) k).2.2 (fByt (se k0) (nI k)) 8) dd tt zz ks ns ds ss (nI k) T0 (k * t1) (c0 + n * t1) k0 t1 n0 (by have h9 : (k + (n + 1)) * t1 = 4 * t1 := (by rw [hk]); rw [Nat.add_mul, Nat.succ_mul] at h9; omega) hT2 ht (fun ls H locs hw hl => ?_) t1 0 ls _ _ (Nat.zero_add _) hw (lv_sub hl [1, 2, 3, 4, 5, 0] rfl)
    refine lv_iconst (v := 0) hx hb dMO_split_238 (by decide) ?_
    refine lv_istore (lv' := [(5, .int 0), (0, .ref g), (1, .int (nI k0)), (2, .int (nI (t1 + 1))), (3, .int (nI n0)), (4, .int (nI k))]) hx hb dMO_split_239 hl (by decide) rfl (fun ls hl => ?_)
    refine ml_sp5 rfl ⟨rfl, rfl⟩ S g mP mS mK mL mT mZ mD mH mG mC m1 m2 m3 m4 mB mX mY (nI (c0 + n * t1 + 0)) cnt cuts lin siz ctr st su se (pyR pu T0 (k * t1 + t1)) ((moF ct xx yy pu T0 t1 n0 (se k0) k).1) (bxF (flF (moF ct xx yy pu T0 t1 n0 (se k0) k).2.1 1 8) t1) (byF (flF (moF ct xx yy pu T0 t1 n0 (se k0) k).2.1 1 8) (flF (moF ct xx yy pu T0 t1 n0 (se k0) k).2.2 (fByt (se k0) (nI k)) 8) pu T0 (k * t1) t1) dd tt zz ks ns ds ss (nI k) k0 t1 n0 hn (fun ls H locs hw hl => ?_) n0 0 ls _ _ (Nat.zero_add _) hw (lv_sub hl [1, 2, 3, 4, 5, 0] rfl)
    refine lv_iinc (v := nI (k + 1)) (lv' := [(4, .int (nI (k + 1))), (0, .ref g), (1, .int (nI k0)), (2, .int (nI (t1 + 1))), (3, .int (nI n0)), (5, .int (nI n0))]) hx hb dMO_split_282 hl (k := 4) rfl ((nI_succ _).symm) (by decide) rfl (fun ls hl => ?_)
    refine lv_goto (tgt := 105) hx hb dMO_split_285 (by decide) ?_
    have e0 : nI (c0 + n * t1) = nI (c0 + n * t1 + 0) := by rfl
    have e1 : pyR pu T0 ((k + 1) * t1) = pyR pu T0 (k * t1 + t1) := by rw [Nat.succ_mul]
    have e2 : (moF ct xx yy pu T0 t1 n0 (se k0) (k + 1)).1 = ctF ((moF ct xx yy pu T0 t1 n0 (se k0) k).1) (byF (flF (moF ct xx yy pu T0 t1 n0 (se k0) k).2.1 1 8) (flF (moF ct xx yy pu T0 t1 n0 (se k0) k).2.2 (fByt (se k0) (nI k)) 8) pu T0 (k * t1) t1) n0 := by simp only [moF]
    have e3 : (moF ct xx yy pu T0 t1 n0 (se k0) (k + 1)).2.1 = bxF (flF (moF ct xx yy pu T0 t1 n0 (se k0) k).2.1 1 8) t1 := by simp only [moF]
    have e4 : (moF ct xx yy pu T0 t1 n0 (se k0) (k + 1)).2.2 = byF (flF (moF ct xx yy pu T0 t1 n0 (se k0) k).2.1 1 8) (flF (moF ct xx yy pu T0 t1 n0 (se k0) k).2.2 (fByt (se k0) (nI k)) 8) pu T0 (k * t1) t1 := by simp only [moF]
    refine ih (k + 1) ls H locs (by omega) ?_ ?_
    · rw [e0, e1, e2, e3, e4]; exact hw
    · exact lv_sub hl [1, 2, 3, 4, 0] rfl

set_option maxHeartbeats 4000000 in
set_option maxRecDepth 100000 in
theorem ml_sp7 {p : Program} {l : Launch} {e : Env} {s : State} {m : MethodId} {args : Array Value} {below : List Frame} {meth : Method} {c : Code} {Q : State → Prop} {D : va_G} {A : Nat → Prop} {cI cZ cV : ClassId} {H0 : Heap} {R : Room} {cells slots : Nat} (hR : R = (xR 2 0 0)) (hC : cells = 0 ∧ slots = 0) (S : CallFix p m c cMO_split 8 s args xAll "EscrowedVersionsModel") (g : Nat) (mP : Nat) (mS : Nat) (mK : Nat) (mL : Nat) (mT : Nat) (mZ : Nat) (mD : Nat) (mH : Nat) (mG : Nat) (mC : Nat) (m1 : Nat) (m2 : Nat) (m3 : Nat) (m4 : Nat) (mB : Nat) (mX : Nat) (mY : Nat) (cash : Int32) (cnt : Int32) (cuts : Int32) (lin : Int32) (siz : Int32) (ctr : Int32) (st : Nat → Int32) (su : Nat → Int32) (se : Nat → Int32) (pu : Nat → Int32) (ct : Nat → Int32) (xx : Nat → Int32) (yy : Nat → Int32) (dd : Nat → Int32) (tt : Nat → Int32) (zz : Nat → Int32) (ks : Nat → Int32) (ns : Nat → Int32) (ds : Nat → Int32) (ss : Nat → Int32) (k0 : Nat) (t1 : Nat) (n0 : Nat) (hk0 : k0 < 8) (hn : n0 ≤ 8)
    (kk : ∀ (ls : Array Slot) (H : Heap) (locs : List Loc), xW D (xT3 cI cZ cV) A H0 H locs [(g, .inr (6, [.ref mP, .int cash, .int cnt, .ref mS, .ref mK, .ref mL, .ref mT, .ref mZ, .ref mD, .ref mH, .ref mG, .ref mC, .int cuts, .int lin, .ref m1, .ref m2, .ref m3, .ref m4, .ref mB, .int siz, .int ctr, .ref mX, .ref mY])), (mS, .inl (cI, 8, .inl st)), (mL, .inl (cZ, 8, .inl su)), (mK, .inl (cI, 8, .inl se)), (mP, .inl (cI, 64, .inl pu)), (mC, .inl (cI, 9, .inl ct)), (mX, .inl (cI, 8, .inl xx)), (mY, .inl (cI, 8, .inl yy)), (mD, .inl (cI, 72, .inl (mdF dd ct k0 n0))), (mT, .inl (cI, 8, .inl tt)), (mZ, .inl (cI, 8, .inl zz)), (m1, .inl (cI, 80, .inl ks)), (m2, .inl (cI, 80, .inl ns)), (m3, .inl (cI, 80, .inl ds)), (m4, .inl (cI, 80, .inl ss))] s → lv_has ls 8 [(0, .ref g), (1, .int (nI k0)), (2, .int (nI (t1 + 1))), (3, .int (nI n0)), (4, .int (nI (n0 + 1)))] → W p l e R s m args below meth c H locs cells slots Q (F0 m 336 ls [])) :
    ∀ (n k : Nat) (ls : Array Slot) (H : Heap) (locs : List Loc), k + n = n0 → xW D (xT3 cI cZ cV) A H0 H locs [(g, .inr (6, [.ref mP, .int cash, .int cnt, .ref mS, .ref mK, .ref mL, .ref mT, .ref mZ, .ref mD, .ref mH, .ref mG, .ref mC, .int cuts, .int lin, .ref m1, .ref m2, .ref m3, .ref m4, .ref mB, .int siz, .int ctr, .ref mX, .ref mY])), (mS, .inl (cI, 8, .inl st)), (mL, .inl (cZ, 8, .inl su)), (mK, .inl (cI, 8, .inl se)), (mP, .inl (cI, 64, .inl pu)), (mC, .inl (cI, 9, .inl ct)), (mX, .inl (cI, 8, .inl xx)), (mY, .inl (cI, 8, .inl yy)), (mD, .inl (cI, 72, .inl (mdF dd ct k0 k))), (mT, .inl (cI, 8, .inl tt)), (mZ, .inl (cI, 8, .inl zz)), (m1, .inl (cI, 80, .inl ks)), (m2, .inl (cI, 80, .inl ns)), (m3, .inl (cI, 80, .inl ds)), (m4, .inl (cI, 80, .inl ss))] s → lv_has ls 8 [(0, .ref g), (1, .int (nI k0)), (2, .int (nI (t1 + 1))), (3, .int (nI n0)), (4, .int (nI (k + 1)))] → W p l e R s m args below meth c H locs cells slots Q (F0 m 296 ls []) := by
  obtain ⟨hx, hb, hml, hown, hts⟩ := id S
  subst hR
  obtain ⟨rfl, rfl⟩ := hC
  intro n
  induction n with
  | zero =>
    intro k ls H locs hk hw hl
    obtain rfl : n0 = k := by omega
    refine lv_iload hx hb dMO_split_296 (lv_at hl 4 rfl) ?_
    refine lv_iload_n hx hb dMO_split_298 rfl (lv_at hl 3 rfl) ?_
    refine lv_icmp_gt (tgt := 336) hx hb dMO_split_299 (by decide) (fun h299 => ?_) (fun h299 => absurd (nI_lt (by omega) (by omega)) h299)
    exact kk ls H locs hw (lv_sub hl [0, 1, 2, 3, 4] rfl)
  | succ n ih =>
    intro k ls H locs hk hw hl
    have hkN : k < n0 := by omega
    refine lv_iload hx hb dMO_split_296 (lv_at hl 4 rfl) ?_
    refine lv_iload_n hx hb dMO_split_298 rfl (lv_at hl 3 rfl) ?_
    refine lv_icmp_gt (tgt := 336) hx hb dMO_split_299 (by decide) (fun h299 => absurd h299 (nI_nlt (by omega) (by omega))) (fun h299 => ?_)
    refine lv_aload_n hx hb dMO_split_302 rfl (lv_at hl 0 rfl) ?_
    refine x_get S hw (C := RMO) (T := TMO) (N := 23) inMO 0 rfl rfl 8 (by decide) xh_2_153 (v := .ref mD) rfl dMO_split_303 ?_
    refine lv_bipush (v := 9) hx hb dMO_split_306 (by decide) ?_
    refine lv_iload_n hx hb dMO_split_308 rfl (lv_at hl 1 rfl) ?_
    refine lv_imul hx hb dMO_split_309 ?_
    refine lv_iload hx hb dMO_split_310 (lv_at hl 4 rfl) ?_
    refine lv_iadd hx hb dMO_split_312 ?_
    refine x_topi (y := nI (9 * k0 + (k + 1))) (ix9 _ _) ?_
    refine lv_iconst (v := 5) hx hb dMO_split_313 (by decide) ?_
    refine lv_iload hx hb dMO_split_314 (lv_at hl 4 rfl) ?_
    refine x_calliD (ws' := [(g, .inr (6, [.ref mP, .int cash, .int cnt, .ref mS, .ref mK, .ref mL, .ref mT, .ref mZ, .ref mD, .ref mH, .ref mG, .ref mC, .int cuts, .int lin, .ref m1, .ref m2, .ref m3, .ref m4, .ref mB, .int siz, .int ctr, .ref mX, .ref mY])), (mS, .inl (cI, 8, .inl st)), (mL, .inl (cZ, 8, .inl su)), (mK, .inl (cI, 8, .inl se)), (mP, .inl (cI, 64, .inl pu)), (mC, .inl (cI, 9, .inl ct)), (mX, .inl (cI, 8, .inl xx)), (mY, .inl (cI, 8, .inl yy)), (mD, .inl (cI, 72, .inl (mdF dd ct k0 k))), (mT, .inl (cI, 8, .inl tt)), (mZ, .inl (cI, 8, .inl zz)), (m1, .inl (cI, 80, .inl ks)), (m2, .inl (cI, 80, .inl ns)), (m3, .inl (cI, 80, .inl ds)), (m4, .inl (cI, 80, .inl ss))]) hw [] rfl rfl (x_runS (n := 2) (rest := [.int (nI (9 * k0 + (k + 1))), .ref mD]) (As := [.int 5, .int (nI (k + 1))]) S hw (m_mix l D cI cZ cV 5 (nI (k + 1)) _) xh_3_9 xh_3_7 xh_3_8 xh_1_6 (by decide +kernel) ⟨by decide, by decide⟩ [] rfl rfl rfl hl.1 rfl (Nat.le_of_ble_eq_true rfl) dMO_split_316 ⟨by decide, by decide⟩) rfl rfl (fun H locs hw => ?_)
    refine lv_aload_n hx hb dMO_split_319 rfl (lv_at hl 0 rfl) ?_
    refine x_get S hw (C := RMO) (T := TMO) (N := 23) inMO 0 rfl rfl 11 (by decide) xh_2_156 (v := .ref mC) rfl dMO_split_320 ?_
    refine lv_iload hx hb dMO_split_323 (lv_at hl 4 rfl) ?_
    refine x_iald S hw 5 0 rfl rfl (j := (k + 1)) (vp_in_nI (by omega) (by omega)) (nI_clamp (by omega)) dMO_split_325 ?_
    refine x_calliD (ws' := [(g, .inr (6, [.ref mP, .int cash, .int cnt, .ref mS, .ref mK, .ref mL, .ref mT, .ref mZ, .ref mD, .ref mH, .ref mG, .ref mC, .int cuts, .int lin, .ref m1, .ref m2, .ref m3, .ref m4, .ref mB, .int siz, .int ctr, .ref mX, .ref mY])), (mS, .inl (cI, 8, .inl st)), (mL, .inl (cZ, 8, .inl su)), (mK, .inl (cI, 8, .inl se)), (mP, .inl (cI, 64, .inl pu)), (mC, .inl (cI, 9, .inl ct)), (mX, .inl (cI, 8, .inl xx)), (mY, .inl (cI, 8, .inl yy)), (mD, .inl (cI, 72, .inl (mdF dd ct k0 k))), (mT, .inl (cI, 8, .inl tt)), (mZ, .inl (cI, 8, .inl zz)), (m1, .inl (cI, 80, .inl ks)), (m2, .inl (cI, 80, .inl ns)), (m3, .inl (cI, 80, .inl ds)), (m4, .inl (cI, 80, .inl ss))]) hw [] rfl rfl (x_runS (n := 2) (rest := [.int (nI (9 * k0 + (k + 1))), .ref mD]) (As := [.int (fMix 5 (nI (k + 1))), .int (ct (k + 1))]) S hw (m_mix l D cI cZ cV (fMix 5 (nI (k + 1))) (ct (k + 1)) _) xh_3_9 xh_3_7 xh_3_8 xh_1_6 (by decide +kernel) ⟨by decide, by decide⟩ [] rfl rfl rfl hl.1 rfl (Nat.le_of_ble_eq_true rfl) dMO_split_326 ⟨by decide, by decide⟩) rfl rfl (fun H locs hw => ?_)
    refine x_iast S hw 8 0 rfl rfl (j := (9 * k0 + (k + 1))) (vp_in_nI (by omega) (by omega)) (nI_clamp (by omega)) (ws' := [(g, .inr (6, [.ref mP, .int cash, .int cnt, .ref mS, .ref mK, .ref mL, .ref mT, .ref mZ, .ref mD, .ref mH, .ref mG, .ref mC, .int cuts, .int lin, .ref m1, .ref m2, .ref m3, .ref m4, .ref mB, .int siz, .int ctr, .ref mX, .ref mY])), (mS, .inl (cI, 8, .inl st)), (mL, .inl (cZ, 8, .inl su)), (mK, .inl (cI, 8, .inl se)), (mP, .inl (cI, 64, .inl pu)), (mC, .inl (cI, 9, .inl ct)), (mX, .inl (cI, 8, .inl xx)), (mY, .inl (cI, 8, .inl yy)), (mD, .inl (cI, 72, .inl (upd (mdF dd ct k0 k) (9 * k0 + (k + 1)) (fMix (fMix 5 (nI (k + 1))) (ct (k + 1)))))), (mT, .inl (cI, 8, .inl tt)), (mZ, .inl (cI, 8, .inl zz)), (m1, .inl (cI, 80, .inl ks)), (m2, .inl (cI, 80, .inl ns)), (m3, .inl (cI, 80, .inl ds)), (m4, .inl (cI, 80, .inl ss))]) rfl dMO_split_329 (fun H locs hw => ?_)
    refine lv_iinc (v := nI ((k + 1) + 1)) (lv' := [(4, .int (nI ((k + 1) + 1))), (0, .ref g), (1, .int (nI k0)), (2, .int (nI (t1 + 1))), (3, .int (nI n0))]) hx hb dMO_split_330 hl (k := 4) rfl ((nI_succ _).symm) (by decide) rfl (fun ls hl => ?_)
    refine lv_goto (tgt := 296) hx hb dMO_split_333 (by decide) ?_
    have e0 : mdF dd ct k0 (k + 1) = upd (mdF dd ct k0 k) (9 * k0 + (k + 1)) (fMix (fMix 5 (nI (k + 1))) (ct (k + 1))) := by simp only [mdF]
    refine ih (k + 1) ls H locs (by omega) ?_ ?_
    · rw [e0]; exact hw
    · exact lv_sub hl [1, 2, 3, 4, 0] rfl

set_option maxHeartbeats 4000000 in
set_option maxRecDepth 100000 in
theorem m_spl_no (l : Launch) (D : va_G) (cI cZ cV : ClassId) (g : Nat) (mP : Nat) (mS : Nat) (mK : Nat) (mL : Nat) (mT : Nat) (mZ : Nat) (mD : Nat) (mH : Nat) (mG : Nat) (mC : Nat) (m1 : Nat) (m2 : Nat) (m3 : Nat) (m4 : Nat) (mB : Nat) (mX : Nat) (mY : Nat) (cash : Int32) (cnt : Int32) (cuts : Int32) (lin : Int32) (siz : Int32) (ctr : Int32) (v : Int32) (t : Int32) (n2 : Int32) (hv : v < 0 ∨ cnt ≤ v) : XI l yMO_split cMO_split 8 (some .int) D (xT3 cI cZ cV) 1 0 0 [.ref g, .int v, .int t, .int n2] [(g, .inr (6, [.ref mP, .int cash, .int cnt, .ref mS, .ref mK, .ref mL, .ref mT, .ref mZ, .ref mD, .ref mH, .ref mG, .ref mC, .int cuts, .int lin, .ref m1, .ref m2, .ref m3, .ref m4, .ref mB, .int siz, .int ctr, .ref mX, .ref mY]))] (fun r u => r = -1 ∧ u = [(g, .inr (6, [.ref mP, .int cash, .int cnt, .ref mS, .ref mK, .ref mL, .ref mT, .ref mZ, .ref mD, .ref mH, .ref mG, .ref mC, .int cuts, .int lin, .ref m1, .ref m2, .ref m3, .ref m4, .ref mB, .int siz, .int ctr, .ref mX, .ref mY]))]) := by
  intro sz
  refine x_ofW (Qc := fun A => va_Qi _ (xB D A) A) sz (by decide) (Nat.le_of_ble_eq_true rfl) ?_
  intro p e s m args below meth c A ls S hr hlk hnm hw hl
  obtain ⟨hx, hb, hml, hown, hts⟩ := id S
  have hl : lv_has ls 8 [(0, .ref g), (1, .int v), (2, .int t), (3, .int n2)] := hl
  refine lv_aload_n hx hb dMO_split_0 rfl (lv_at hl 0 rfl) ?_
  refine lv_iload_n hx hb dMO_split_1 rfl (lv_at hl 1 rfl) ?_
  refine x_calliD (ws' := [(g, .inr (6, [.ref mP, .int cash, .int cnt, .ref mS, .ref mK, .ref mL, .ref mT, .ref mZ, .ref mD, .ref mH, .ref mG, .ref mC, .int cuts, .int lin, .ref m1, .ref m2, .ref m3, .ref m4, .ref mB, .int siz, .int ctr, .ref mX, .ref mY]))]) hw [0] rfl rfl (x_runV (n := 1) (rest := []) (As := [.int v]) S hw (m_none_y l D cI cZ cV g mP mS mK mL mT mZ mD mH mG mC m1 m2 m3 m4 mB mX mY cash cnt cuts lin siz ctr v hv _) xh_3_19 xh_3_16 xh_3_18 xsel_MO_none xh_1_6 (by decide +kernel) ⟨by decide, by decide⟩ [0] rfl rfl (ci := 6) (q0 := 0) rfl rfl rfl hl.1 rfl (Nat.le_of_ble_eq_true rfl) dMO_split_2 ⟨by decide, by decide⟩) rfl rfl (fun H locs hw => ?_)
  refine lv_if_ne (tgt := 24) hx hb dMO_split_5 (by decide) (fun h5 => ?_) (fun h5 => absurd h5 (by decide))
  refine lv_iconst (v := (-1)) hx hb dMO_split_24 (by decide) ?_
  exact x_iret S hr hlk hw (by decide) (by decide) (⟨rfl, rfl⟩) dMO_split_25

set_option maxHeartbeats 4000000 in
set_option maxRecDepth 100000 in
theorem m_spl_bad (l : Launch) (D : va_G) (cI cZ cV : ClassId) (g : Nat) (mP : Nat) (mS : Nat) (mK : Nat) (mL : Nat) (mT : Nat) (mZ : Nat) (mD : Nat) (mH : Nat) (mG : Nat) (mC : Nat) (m1 : Nat) (m2 : Nat) (m3 : Nat) (m4 : Nat) (mB : Nat) (mX : Nat) (mY : Nat) (cash : Int32) (cuts : Int32) (lin : Int32) (siz : Int32) (ctr : Int32) (n1 : Nat) (k0 : Nat) (t : Int32) (n2 : Int32) (hk : k0 < n1 ∧ n1 ≤ 8) (hE : fIsE t n2 = 0) : XI l yMO_split cMO_split 8 (some .int) D (xT3 cI cZ cV) 1 0 0 [.ref g, .int (nI k0), .int t, .int n2] [(g, .inr (6, [.ref mP, .int cash, .int (nI n1), .ref mS, .ref mK, .ref mL, .ref mT, .ref mZ, .ref mD, .ref mH, .ref mG, .ref mC, .int cuts, .int lin, .ref m1, .ref m2, .ref m3, .ref m4, .ref mB, .int siz, .int ctr, .ref mX, .ref mY]))] (fun r u => r = -1 ∧ u = [(g, .inr (6, [.ref mP, .int cash, .int (nI n1), .ref mS, .ref mK, .ref mL, .ref mT, .ref mZ, .ref mD, .ref mH, .ref mG, .ref mC, .int cuts, .int lin, .ref m1, .ref m2, .ref m3, .ref m4, .ref mB, .int siz, .int ctr, .ref mX, .ref mY]))]) := by
  intro sz
  refine x_ofW (Qc := fun A => va_Qi _ (xB D A) A) sz (by decide) (Nat.le_of_ble_eq_true rfl) ?_
  intro p e s m args below meth c A ls S hr hlk hnm hw hl
  obtain ⟨hx, hb, hml, hown, hts⟩ := id S
  have hl : lv_has ls 8 [(0, .ref g), (1, .int (nI k0)), (2, .int t), (3, .int n2)] := hl
  refine lv_aload_n hx hb dMO_split_0 rfl (lv_at hl 0 rfl) ?_
  refine lv_iload_n hx hb dMO_split_1 rfl (lv_at hl 1 rfl) ?_
  refine x_calliD (ws' := [(g, .inr (6, [.ref mP, .int cash, .int (nI n1), .ref mS, .ref mK, .ref mL, .ref mT, .ref mZ, .ref mD, .ref mH, .ref mG, .ref mC, .int cuts, .int lin, .ref m1, .ref m2, .ref m3, .ref m4, .ref mB, .int siz, .int ctr, .ref mX, .ref mY]))]) hw [0] rfl rfl (x_runV (n := 1) (rest := []) (As := [.int (nI k0)]) S hw (m_none_n l D cI cZ cV g mP mS mK mL mT mZ mD mH mG mC m1 m2 m3 m4 mB mX mY cash cuts lin siz ctr n1 k0 hk _) xh_3_19 xh_3_16 xh_3_18 xsel_MO_none xh_1_6 (by decide +kernel) ⟨by decide, by decide⟩ [0] rfl rfl (ci := 6) (q0 := 0) rfl rfl rfl hl.1 rfl (Nat.le_of_ble_eq_true rfl) dMO_split_2 ⟨by decide, by decide⟩) rfl rfl (fun H locs hw => ?_)
  refine lv_if_ne (tgt := 24) hx hb dMO_split_5 (by decide) (fun h5 => absurd rfl h5) (fun h5 => ?_)
  refine lv_iload_n hx hb dMO_split_8 rfl (lv_at hl 2 rfl) ?_
  refine lv_iconst (v := 1) hx hb dMO_split_9 (by decide) ?_
  refine lv_icmp_lt (tgt := 24) hx hb dMO_split_10 (by decide) (fun h10 => ?_) (fun h10 => ?_)
  · skip
    refine lv_iconst (v := (-1)) hx hb dMO_split_24 (by decide) ?_
    exact x_iret S hr hlk hw (by decide) (by decide) (⟨rfl, rfl⟩) dMO_split_25
  refine lv_iload_n hx hb dMO_split_13 rfl (lv_at hl 2 rfl) ?_
  refine lv_iload_n hx hb dMO_split_14 rfl (lv_at hl 3 rfl) ?_
  refine lv_icmp_gt (tgt := 24) hx hb dMO_split_15 (by decide) (fun h15 => ?_) (fun h15 => ?_)
  · skip
    refine lv_iconst (v := (-1)) hx hb dMO_split_24 (by decide) ?_
    exact x_iret S hr hlk hw (by decide) (by decide) (⟨rfl, rfl⟩) dMO_split_25
  refine lv_iload_n hx hb dMO_split_18 rfl (lv_at hl 3 rfl) ?_
  refine lv_bipush (v := 8) hx hb dMO_split_19 (by decide) ?_
  refine lv_icmp_le (tgt := 26) hx hb dMO_split_21 (by decide) (fun h21 => ?_) (fun h21 => ?_)
  · skip
    exact False.elim (by unfold fIsE at hE; rw [if_neg h10, if_neg h15, if_neg (Int32.not_lt.mpr h21)] at hE; exact absurd hE (by decide))
  refine lv_iconst (v := (-1)) hx hb dMO_split_24 (by decide) ?_
  exact x_iret S hr hlk hw (by decide) (by decide) (⟨rfl, rfl⟩) dMO_split_25

set_option maxHeartbeats 4000000 in
set_option maxRecDepth 100000 in
theorem m_spl_gone (l : Launch) (D : va_G) (cI cZ cV : ClassId) (g : Nat) (mP : Nat) (mS : Nat) (mK : Nat) (mL : Nat) (mT : Nat) (mZ : Nat) (mD : Nat) (mH : Nat) (mG : Nat) (mC : Nat) (m1 : Nat) (m2 : Nat) (m3 : Nat) (m4 : Nat) (mB : Nat) (mX : Nat) (mY : Nat) (cash : Int32) (cuts : Int32) (lin : Int32) (siz : Int32) (ctr : Int32) (n1 : Nat) (k0 : Nat) (st : Nat → Int32) (t : Int32) (n2 : Int32) (hk : k0 < n1 ∧ n1 ≤ 8) (hE : ¬ fIsE t n2 = 0) (hs : st k0 = 3) : XI l yMO_split cMO_split 8 (some .int) D (xT3 cI cZ cV) 1 0 0 [.ref g, .int (nI k0), .int t, .int n2] [(g, .inr (6, [.ref mP, .int cash, .int (nI n1), .ref mS, .ref mK, .ref mL, .ref mT, .ref mZ, .ref mD, .ref mH, .ref mG, .ref mC, .int cuts, .int lin, .ref m1, .ref m2, .ref m3, .ref m4, .ref mB, .int siz, .int ctr, .ref mX, .ref mY])), (mS, .inl (cI, 8, .inl st))] (fun r u => r = -6 ∧ u = [(g, .inr (6, [.ref mP, .int cash, .int (nI n1), .ref mS, .ref mK, .ref mL, .ref mT, .ref mZ, .ref mD, .ref mH, .ref mG, .ref mC, .int cuts, .int lin, .ref m1, .ref m2, .ref m3, .ref m4, .ref mB, .int siz, .int ctr, .ref mX, .ref mY])), (mS, .inl (cI, 8, .inl st))]) := by
  intro sz
  refine x_ofW (Qc := fun A => va_Qi _ (xB D A) A) sz (by decide) (Nat.le_of_ble_eq_true rfl) ?_
  intro p e s m args below meth c A ls S hr hlk hnm hw hl
  obtain ⟨hx, hb, hml, hown, hts⟩ := id S
  have hl : lv_has ls 8 [(0, .ref g), (1, .int (nI k0)), (2, .int t), (3, .int n2)] := hl
  refine lv_aload_n hx hb dMO_split_0 rfl (lv_at hl 0 rfl) ?_
  refine lv_iload_n hx hb dMO_split_1 rfl (lv_at hl 1 rfl) ?_
  refine x_calliD (ws' := [(g, .inr (6, [.ref mP, .int cash, .int (nI n1), .ref mS, .ref mK, .ref mL, .ref mT, .ref mZ, .ref mD, .ref mH, .ref mG, .ref mC, .int cuts, .int lin, .ref m1, .ref m2, .ref m3, .ref m4, .ref mB, .int siz, .int ctr, .ref mX, .ref mY])), (mS, .inl (cI, 8, .inl st))]) hw [0] rfl rfl (x_runV (n := 1) (rest := []) (As := [.int (nI k0)]) S hw (m_none_n l D cI cZ cV g mP mS mK mL mT mZ mD mH mG mC m1 m2 m3 m4 mB mX mY cash cuts lin siz ctr n1 k0 hk _) xh_3_19 xh_3_16 xh_3_18 xsel_MO_none xh_1_6 (by decide +kernel) ⟨by decide, by decide⟩ [0] rfl rfl (ci := 6) (q0 := 0) rfl rfl rfl hl.1 rfl (Nat.le_of_ble_eq_true rfl) dMO_split_2 ⟨by decide, by decide⟩) rfl rfl (fun H locs hw => ?_)
  refine lv_if_ne (tgt := 24) hx hb dMO_split_5 (by decide) (fun h5 => absurd rfl h5) (fun h5 => ?_)
  refine lv_iload_n hx hb dMO_split_8 rfl (lv_at hl 2 rfl) ?_
  refine lv_iconst (v := 1) hx hb dMO_split_9 (by decide) ?_
  refine lv_icmp_lt (tgt := 24) hx hb dMO_split_10 (by decide) (fun h10 => absurd h10 (isE_of hE).1) (fun h10 => ?_)
  refine lv_iload_n hx hb dMO_split_13 rfl (lv_at hl 2 rfl) ?_
  refine lv_iload_n hx hb dMO_split_14 rfl (lv_at hl 3 rfl) ?_
  refine lv_icmp_gt (tgt := 24) hx hb dMO_split_15 (by decide) (fun h15 => absurd h15 (isE_of hE).2.1) (fun h15 => ?_)
  refine lv_iload_n hx hb dMO_split_18 rfl (lv_at hl 3 rfl) ?_
  refine lv_bipush (v := 8) hx hb dMO_split_19 (by decide) ?_
  refine lv_icmp_le (tgt := 26) hx hb dMO_split_21 (by decide) (fun h21 => ?_) (fun h21 => absurd (Int32.not_lt.mp (isE_of hE).2.2) h21)
  refine lv_aload_n hx hb dMO_split_26 rfl (lv_at hl 0 rfl) ?_
  refine x_get S hw (C := RMO) (T := TMO) (N := 23) inMO 0 rfl rfl 3 (by decide) xh_2_148 (v := .ref mS) rfl dMO_split_27 ?_
  refine lv_iload_n hx hb dMO_split_30 rfl (lv_at hl 1 rfl) ?_
  refine x_iald S hw 1 0 rfl rfl (j := k0) (vp_in_nI (by omega) (by omega)) (nI_clamp (by omega)) dMO_split_31 ?_
  refine lv_iconst (v := 3) hx hb dMO_split_32 (by decide) ?_
  refine lv_icmp_ne (tgt := 39) hx hb dMO_split_33 (by decide) (fun h33 => absurd hs h33) (fun h33 => ?_)
  refine lv_bipush (v := (-6)) hx hb dMO_split_36 (by decide) ?_
  exact x_iret S hr hlk hw (by decide) (by decide) (⟨rfl, rfl⟩) dMO_split_38

set_option maxHeartbeats 4000000 in
set_option maxRecDepth 100000 in
theorem m_spl_lock (l : Launch) (D : va_G) (cI cZ cV : ClassId) (g : Nat) (mP : Nat) (mS : Nat) (mK : Nat) (mL : Nat) (mT : Nat) (mZ : Nat) (mD : Nat) (mH : Nat) (mG : Nat) (mC : Nat) (m1 : Nat) (m2 : Nat) (m3 : Nat) (m4 : Nat) (mB : Nat) (mX : Nat) (mY : Nat) (cash : Int32) (cuts : Int32) (lin : Int32) (siz : Int32) (ctr : Int32) (n1 : Nat) (k0 : Nat) (st : Nat → Int32) (su : Nat → Int32) (t : Int32) (n2 : Int32) (hk : k0 < n1 ∧ n1 ≤ 8) (hE : ¬ fIsE t n2 = 0) (hs : ¬ st k0 = 3) (hl9 : ¬ su k0 = 0) : XI l yMO_split cMO_split 8 (some .int) D (xT3 cI cZ cV) 1 0 0 [.ref g, .int (nI k0), .int t, .int n2] [(g, .inr (6, [.ref mP, .int cash, .int (nI n1), .ref mS, .ref mK, .ref mL, .ref mT, .ref mZ, .ref mD, .ref mH, .ref mG, .ref mC, .int cuts, .int lin, .ref m1, .ref m2, .ref m3, .ref m4, .ref mB, .int siz, .int ctr, .ref mX, .ref mY])), (mS, .inl (cI, 8, .inl st)), (mL, .inl (cZ, 8, .inl su))] (fun r u => r = -7 ∧ u = [(g, .inr (6, [.ref mP, .int cash, .int (nI n1), .ref mS, .ref mK, .ref mL, .ref mT, .ref mZ, .ref mD, .ref mH, .ref mG, .ref mC, .int cuts, .int lin, .ref m1, .ref m2, .ref m3, .ref m4, .ref mB, .int siz, .int ctr, .ref mX, .ref mY])), (mS, .inl (cI, 8, .inl st)), (mL, .inl (cZ, 8, .inl su))]) := by
  intro sz
  refine x_ofW (Qc := fun A => va_Qi _ (xB D A) A) sz (by decide) (Nat.le_of_ble_eq_true rfl) ?_
  intro p e s m args below meth c A ls S hr hlk hnm hw hl
  obtain ⟨hx, hb, hml, hown, hts⟩ := id S
  have hl : lv_has ls 8 [(0, .ref g), (1, .int (nI k0)), (2, .int t), (3, .int n2)] := hl
  refine lv_aload_n hx hb dMO_split_0 rfl (lv_at hl 0 rfl) ?_
  refine lv_iload_n hx hb dMO_split_1 rfl (lv_at hl 1 rfl) ?_
  refine x_calliD (ws' := [(g, .inr (6, [.ref mP, .int cash, .int (nI n1), .ref mS, .ref mK, .ref mL, .ref mT, .ref mZ, .ref mD, .ref mH, .ref mG, .ref mC, .int cuts, .int lin, .ref m1, .ref m2, .ref m3, .ref m4, .ref mB, .int siz, .int ctr, .ref mX, .ref mY])), (mS, .inl (cI, 8, .inl st)), (mL, .inl (cZ, 8, .inl su))]) hw [0] rfl rfl (x_runV (n := 1) (rest := []) (As := [.int (nI k0)]) S hw (m_none_n l D cI cZ cV g mP mS mK mL mT mZ mD mH mG mC m1 m2 m3 m4 mB mX mY cash cuts lin siz ctr n1 k0 hk _) xh_3_19 xh_3_16 xh_3_18 xsel_MO_none xh_1_6 (by decide +kernel) ⟨by decide, by decide⟩ [0] rfl rfl (ci := 6) (q0 := 0) rfl rfl rfl hl.1 rfl (Nat.le_of_ble_eq_true rfl) dMO_split_2 ⟨by decide, by decide⟩) rfl rfl (fun H locs hw => ?_)
  refine lv_if_ne (tgt := 24) hx hb dMO_split_5 (by decide) (fun h5 => absurd rfl h5) (fun h5 => ?_)
  refine lv_iload_n hx hb dMO_split_8 rfl (lv_at hl 2 rfl) ?_
  refine lv_iconst (v := 1) hx hb dMO_split_9 (by decide) ?_
  refine lv_icmp_lt (tgt := 24) hx hb dMO_split_10 (by decide) (fun h10 => absurd h10 (isE_of hE).1) (fun h10 => ?_)
  refine lv_iload_n hx hb dMO_split_13 rfl (lv_at hl 2 rfl) ?_
  refine lv_iload_n hx hb dMO_split_14 rfl (lv_at hl 3 rfl) ?_
  refine lv_icmp_gt (tgt := 24) hx hb dMO_split_15 (by decide) (fun h15 => absurd h15 (isE_of hE).2.1) (fun h15 => ?_)
  refine lv_iload_n hx hb dMO_split_18 rfl (lv_at hl 3 rfl) ?_
  refine lv_bipush (v := 8) hx hb dMO_split_19 (by decide) ?_
  refine lv_icmp_le (tgt := 26) hx hb dMO_split_21 (by decide) (fun h21 => ?_) (fun h21 => absurd (Int32.not_lt.mp (isE_of hE).2.2) h21)
  refine lv_aload_n hx hb dMO_split_26 rfl (lv_at hl 0 rfl) ?_
  refine x_get S hw (C := RMO) (T := TMO) (N := 23) inMO 0 rfl rfl 3 (by decide) xh_2_148 (v := .ref mS) rfl dMO_split_27 ?_
  refine lv_iload_n hx hb dMO_split_30 rfl (lv_at hl 1 rfl) ?_
  refine x_iald S hw 1 0 rfl rfl (j := k0) (vp_in_nI (by omega) (by omega)) (nI_clamp (by omega)) dMO_split_31 ?_
  refine lv_iconst (v := 3) hx hb dMO_split_32 (by decide) ?_
  refine lv_icmp_ne (tgt := 39) hx hb dMO_split_33 (by decide) (fun h33 => ?_) (fun h33 => absurd h33 hs)
  refine lv_aload_n hx hb dMO_split_39 rfl (lv_at hl 0 rfl) ?_
  refine x_get S hw (C := RMO) (T := TMO) (N := 23) inMO 0 rfl rfl 5 (by decide) xh_2_150 (v := .ref mL) rfl dMO_split_40 ?_
  refine lv_iload_n hx hb dMO_split_43 rfl (lv_at hl 1 rfl) ?_
  refine x_zald S hw 2 1 rfl rfl (j := k0) (vp_in_nI (by omega) (by omega)) (nI_clamp (by omega)) dMO_split_44 ?_
  refine lv_if_eq (tgt := 51) hx hb dMO_split_45 (by decide) (fun h45 => absurd h45 hl9) (fun h45 => ?_)
  refine lv_bipush (v := (-7)) hx hb dMO_split_48 (by decide) ?_
  exact x_iret S hr hlk hw (by decide) (by decide) (⟨rfl, rfl⟩) dMO_split_50

set_option maxHeartbeats 4000000 in
set_option maxRecDepth 100000 in
theorem m_spl_full (l : Launch) (D : va_G) (cI cZ cV : ClassId) (g : Nat) (mP : Nat) (mS : Nat) (mK : Nat) (mL : Nat) (mT : Nat) (mZ : Nat) (mD : Nat) (mH : Nat) (mG : Nat) (mC : Nat) (m1 : Nat) (m2 : Nat) (m3 : Nat) (m4 : Nat) (mB : Nat) (mX : Nat) (mY : Nat) (cash : Int32) (cuts : Int32) (siz : Int32) (ctr : Int32) (n1 : Nat) (k0 : Nat) (st : Nat → Int32) (su : Nat → Int32) (l0 : Nat) (t : Int32) (n2 : Int32) (hk : k0 < n1 ∧ n1 ≤ 8) (hE : ¬ fIsE t n2 = 0) (hs : ¬ st k0 = 3) (hl9 : su k0 = 0) (hc : l0 = 80) : XI l yMO_split cMO_split 8 (some .int) D (xT3 cI cZ cV) 1 0 0 [.ref g, .int (nI k0), .int t, .int n2] [(g, .inr (6, [.ref mP, .int cash, .int (nI n1), .ref mS, .ref mK, .ref mL, .ref mT, .ref mZ, .ref mD, .ref mH, .ref mG, .ref mC, .int cuts, .int (nI l0), .ref m1, .ref m2, .ref m3, .ref m4, .ref mB, .int siz, .int ctr, .ref mX, .ref mY])), (mS, .inl (cI, 8, .inl st)), (mL, .inl (cZ, 8, .inl su))] (fun r u => r = -2 ∧ u = [(g, .inr (6, [.ref mP, .int cash, .int (nI n1), .ref mS, .ref mK, .ref mL, .ref mT, .ref mZ, .ref mD, .ref mH, .ref mG, .ref mC, .int cuts, .int (nI l0), .ref m1, .ref m2, .ref m3, .ref m4, .ref mB, .int siz, .int ctr, .ref mX, .ref mY])), (mS, .inl (cI, 8, .inl st)), (mL, .inl (cZ, 8, .inl su))]) := by
  intro sz
  refine x_ofW (Qc := fun A => va_Qi _ (xB D A) A) sz (by decide) (Nat.le_of_ble_eq_true rfl) ?_
  intro p e s m args below meth c A ls S hr hlk hnm hw hl
  obtain ⟨hx, hb, hml, hown, hts⟩ := id S
  have hl : lv_has ls 8 [(0, .ref g), (1, .int (nI k0)), (2, .int t), (3, .int n2)] := hl
  refine lv_aload_n hx hb dMO_split_0 rfl (lv_at hl 0 rfl) ?_
  refine lv_iload_n hx hb dMO_split_1 rfl (lv_at hl 1 rfl) ?_
  refine x_calliD (ws' := [(g, .inr (6, [.ref mP, .int cash, .int (nI n1), .ref mS, .ref mK, .ref mL, .ref mT, .ref mZ, .ref mD, .ref mH, .ref mG, .ref mC, .int cuts, .int (nI l0), .ref m1, .ref m2, .ref m3, .ref m4, .ref mB, .int siz, .int ctr, .ref mX, .ref mY])), (mS, .inl (cI, 8, .inl st)), (mL, .inl (cZ, 8, .inl su))]) hw [0] rfl rfl (x_runV (n := 1) (rest := []) (As := [.int (nI k0)]) S hw (m_none_n l D cI cZ cV g mP mS mK mL mT mZ mD mH mG mC m1 m2 m3 m4 mB mX mY cash cuts (nI l0) siz ctr n1 k0 hk _) xh_3_19 xh_3_16 xh_3_18 xsel_MO_none xh_1_6 (by decide +kernel) ⟨by decide, by decide⟩ [0] rfl rfl (ci := 6) (q0 := 0) rfl rfl rfl hl.1 rfl (Nat.le_of_ble_eq_true rfl) dMO_split_2 ⟨by decide, by decide⟩) rfl rfl (fun H locs hw => ?_)
  refine lv_if_ne (tgt := 24) hx hb dMO_split_5 (by decide) (fun h5 => absurd rfl h5) (fun h5 => ?_)
  refine lv_iload_n hx hb dMO_split_8 rfl (lv_at hl 2 rfl) ?_
  refine lv_iconst (v := 1) hx hb dMO_split_9 (by decide) ?_
  refine lv_icmp_lt (tgt := 24) hx hb dMO_split_10 (by decide) (fun h10 => absurd h10 (isE_of hE).1) (fun h10 => ?_)
  refine lv_iload_n hx hb dMO_split_13 rfl (lv_at hl 2 rfl) ?_
  refine lv_iload_n hx hb dMO_split_14 rfl (lv_at hl 3 rfl) ?_
  refine lv_icmp_gt (tgt := 24) hx hb dMO_split_15 (by decide) (fun h15 => absurd h15 (isE_of hE).2.1) (fun h15 => ?_)
  refine lv_iload_n hx hb dMO_split_18 rfl (lv_at hl 3 rfl) ?_
  refine lv_bipush (v := 8) hx hb dMO_split_19 (by decide) ?_
  refine lv_icmp_le (tgt := 26) hx hb dMO_split_21 (by decide) (fun h21 => ?_) (fun h21 => absurd (Int32.not_lt.mp (isE_of hE).2.2) h21)
  refine lv_aload_n hx hb dMO_split_26 rfl (lv_at hl 0 rfl) ?_
  refine x_get S hw (C := RMO) (T := TMO) (N := 23) inMO 0 rfl rfl 3 (by decide) xh_2_148 (v := .ref mS) rfl dMO_split_27 ?_
  refine lv_iload_n hx hb dMO_split_30 rfl (lv_at hl 1 rfl) ?_
  refine x_iald S hw 1 0 rfl rfl (j := k0) (vp_in_nI (by omega) (by omega)) (nI_clamp (by omega)) dMO_split_31 ?_
  refine lv_iconst (v := 3) hx hb dMO_split_32 (by decide) ?_
  refine lv_icmp_ne (tgt := 39) hx hb dMO_split_33 (by decide) (fun h33 => ?_) (fun h33 => absurd h33 hs)
  refine lv_aload_n hx hb dMO_split_39 rfl (lv_at hl 0 rfl) ?_
  refine x_get S hw (C := RMO) (T := TMO) (N := 23) inMO 0 rfl rfl 5 (by decide) xh_2_150 (v := .ref mL) rfl dMO_split_40 ?_
  refine lv_iload_n hx hb dMO_split_43 rfl (lv_at hl 1 rfl) ?_
  refine x_zald S hw 2 1 rfl rfl (j := k0) (vp_in_nI (by omega) (by omega)) (nI_clamp (by omega)) dMO_split_44 ?_
  refine lv_if_eq (tgt := 51) hx hb dMO_split_45 (by decide) (fun h45 => ?_) (fun h45 => absurd hl9 h45)
  refine lv_aload_n hx hb dMO_split_51 rfl (lv_at hl 0 rfl) ?_
  refine x_get S hw (C := RMO) (T := TMO) (N := 23) inMO 0 rfl rfl 13 (by decide) xh_2_158 (v := .int (nI l0)) rfl dMO_split_52 ?_
  refine lv_bipush (v := 80) hx hb dMO_split_55 (by decide) ?_
  refine lv_icmp_ne (tgt := 63) hx hb dMO_split_57 (by decide) (fun h57 => absurd (by rw [hc]; rfl) h57) (fun h57 => ?_)
  refine lv_bipush (v := (-2)) hx hb dMO_split_60 (by decide) ?_
  exact x_iret S hr hlk hw (by decide) (by decide) (⟨rfl, rfl⟩) dMO_split_62

set_option maxHeartbeats 4000000 in
set_option maxRecDepth 100000 in
theorem m_spl_coins (l : Launch) (D : va_G) (cI cZ cV : ClassId) (g : Nat) (mP : Nat) (mS : Nat) (mK : Nat) (mL : Nat) (mT : Nat) (mZ : Nat) (mD : Nat) (mH : Nat) (mG : Nat) (mC : Nat) (m1 : Nat) (m2 : Nat) (m3 : Nat) (m4 : Nat) (mB : Nat) (mX : Nat) (mY : Nat) (cuts : Int32) (siz : Int32) (ctr : Int32) (n1 : Nat) (k0 : Nat) (st : Nat → Int32) (su : Nat → Int32) (l0 : Nat) (n : Nat) (t1 : Nat) (n0 : Nat) (hk : k0 < n1 ∧ n1 ≤ 8) (hE : ¬ fIsE (nI (t1 + 1)) (nI n0) = 0) (hs : ¬ st k0 = 3) (hl9 : su k0 = 0) (hc : l0 < 80) (ht : t1 + 1 ≤ n0 ∧ n0 ≤ 8) (hn : n < 4 * t1) : XI l yMO_split cMO_split 8 (some .int) D (xT3 cI cZ cV) 1 0 0 [.ref g, .int (nI k0), .int (nI (t1 + 1)), .int (nI n0)] [(g, .inr (6, [.ref mP, .int (nI n), .int (nI n1), .ref mS, .ref mK, .ref mL, .ref mT, .ref mZ, .ref mD, .ref mH, .ref mG, .ref mC, .int cuts, .int (nI l0), .ref m1, .ref m2, .ref m3, .ref m4, .ref mB, .int siz, .int ctr, .ref mX, .ref mY])), (mS, .inl (cI, 8, .inl st)), (mL, .inl (cZ, 8, .inl su))] (fun r u => r = -3 ∧ u = [(g, .inr (6, [.ref mP, .int (nI n), .int (nI n1), .ref mS, .ref mK, .ref mL, .ref mT, .ref mZ, .ref mD, .ref mH, .ref mG, .ref mC, .int cuts, .int (nI l0), .ref m1, .ref m2, .ref m3, .ref m4, .ref mB, .int siz, .int ctr, .ref mX, .ref mY])), (mS, .inl (cI, 8, .inl st)), (mL, .inl (cZ, 8, .inl su))]) := by
  intro sz
  refine x_ofW (Qc := fun A => va_Qi _ (xB D A) A) sz (by decide) (Nat.le_of_ble_eq_true rfl) ?_
  intro p e s m args below meth c A ls S hr hlk hnm hw hl
  obtain ⟨hx, hb, hml, hown, hts⟩ := id S
  have hl : lv_has ls 8 [(0, .ref g), (1, .int (nI k0)), (2, .int (nI (t1 + 1))), (3, .int (nI n0))] := hl
  refine lv_aload_n hx hb dMO_split_0 rfl (lv_at hl 0 rfl) ?_
  refine lv_iload_n hx hb dMO_split_1 rfl (lv_at hl 1 rfl) ?_
  refine x_calliD (ws' := [(g, .inr (6, [.ref mP, .int (nI n), .int (nI n1), .ref mS, .ref mK, .ref mL, .ref mT, .ref mZ, .ref mD, .ref mH, .ref mG, .ref mC, .int cuts, .int (nI l0), .ref m1, .ref m2, .ref m3, .ref m4, .ref mB, .int siz, .int ctr, .ref mX, .ref mY])), (mS, .inl (cI, 8, .inl st)), (mL, .inl (cZ, 8, .inl su))]) hw [0] rfl rfl (x_runV (n := 1) (rest := []) (As := [.int (nI k0)]) S hw (m_none_n l D cI cZ cV g mP mS mK mL mT mZ mD mH mG mC m1 m2 m3 m4 mB mX mY (nI n) cuts (nI l0) siz ctr n1 k0 hk _) xh_3_19 xh_3_16 xh_3_18 xsel_MO_none xh_1_6 (by decide +kernel) ⟨by decide, by decide⟩ [0] rfl rfl (ci := 6) (q0 := 0) rfl rfl rfl hl.1 rfl (Nat.le_of_ble_eq_true rfl) dMO_split_2 ⟨by decide, by decide⟩) rfl rfl (fun H locs hw => ?_)
  refine lv_if_ne (tgt := 24) hx hb dMO_split_5 (by decide) (fun h5 => absurd rfl h5) (fun h5 => ?_)
  refine lv_iload_n hx hb dMO_split_8 rfl (lv_at hl 2 rfl) ?_
  refine lv_iconst (v := 1) hx hb dMO_split_9 (by decide) ?_
  refine lv_icmp_lt (tgt := 24) hx hb dMO_split_10 (by decide) (fun h10 => absurd h10 (isE_of hE).1) (fun h10 => ?_)
  refine lv_iload_n hx hb dMO_split_13 rfl (lv_at hl 2 rfl) ?_
  refine lv_iload_n hx hb dMO_split_14 rfl (lv_at hl 3 rfl) ?_
  refine lv_icmp_gt (tgt := 24) hx hb dMO_split_15 (by decide) (fun h15 => absurd h15 (isE_of hE).2.1) (fun h15 => ?_)
  refine lv_iload_n hx hb dMO_split_18 rfl (lv_at hl 3 rfl) ?_
  refine lv_bipush (v := 8) hx hb dMO_split_19 (by decide) ?_
  refine lv_icmp_le (tgt := 26) hx hb dMO_split_21 (by decide) (fun h21 => ?_) (fun h21 => absurd (Int32.not_lt.mp (isE_of hE).2.2) h21)
  refine lv_aload_n hx hb dMO_split_26 rfl (lv_at hl 0 rfl) ?_
  refine x_get S hw (C := RMO) (T := TMO) (N := 23) inMO 0 rfl rfl 3 (by decide) xh_2_148 (v := .ref mS) rfl dMO_split_27 ?_
  refine lv_iload_n hx hb dMO_split_30 rfl (lv_at hl 1 rfl) ?_
  refine x_iald S hw 1 0 rfl rfl (j := k0) (vp_in_nI (by omega) (by omega)) (nI_clamp (by omega)) dMO_split_31 ?_
  refine lv_iconst (v := 3) hx hb dMO_split_32 (by decide) ?_
  refine lv_icmp_ne (tgt := 39) hx hb dMO_split_33 (by decide) (fun h33 => ?_) (fun h33 => absurd h33 hs)
  refine lv_aload_n hx hb dMO_split_39 rfl (lv_at hl 0 rfl) ?_
  refine x_get S hw (C := RMO) (T := TMO) (N := 23) inMO 0 rfl rfl 5 (by decide) xh_2_150 (v := .ref mL) rfl dMO_split_40 ?_
  refine lv_iload_n hx hb dMO_split_43 rfl (lv_at hl 1 rfl) ?_
  refine x_zald S hw 2 1 rfl rfl (j := k0) (vp_in_nI (by omega) (by omega)) (nI_clamp (by omega)) dMO_split_44 ?_
  refine lv_if_eq (tgt := 51) hx hb dMO_split_45 (by decide) (fun h45 => ?_) (fun h45 => absurd hl9 h45)
  refine lv_aload_n hx hb dMO_split_51 rfl (lv_at hl 0 rfl) ?_
  refine x_get S hw (C := RMO) (T := TMO) (N := 23) inMO 0 rfl rfl 13 (by decide) xh_2_158 (v := .int (nI l0)) rfl dMO_split_52 ?_
  refine lv_bipush (v := 80) hx hb dMO_split_55 (by decide) ?_
  refine lv_icmp_ne (tgt := 63) hx hb dMO_split_57 (by decide) (fun h57 => ?_) (fun h57 => absurd h57 (fun e => by have := (nI_eq (a := l0) (b := 80) (by omega) (by decide)).mp e; omega))
  refine lv_aload_n hx hb dMO_split_63 rfl (lv_at hl 0 rfl) ?_
  refine x_get S hw (C := RMO) (T := TMO) (N := 23) inMO 0 rfl rfl 1 (by decide) xh_2_146 (v := .int (nI n)) rfl dMO_split_64 ?_
  refine lv_iconst (v := 4) hx hb dMO_split_67 (by decide) ?_
  refine lv_iload_n hx hb dMO_split_68 rfl (lv_at hl 2 rfl) ?_
  refine lv_iconst (v := 1) hx hb dMO_split_69 (by decide) ?_
  refine lv_isub hx hb dMO_split_70 ?_
  refine x_topi (y := nI t1) (nI_pred t1) ?_
  refine lv_imul hx hb dMO_split_71 ?_
  refine x_topi (y := nI (4 * t1)) (pk_mul 4 t1) ?_
  refine lv_icmp_ge (tgt := 78) hx hb dMO_split_72 (by decide) (fun h72 => absurd h72 (nI_ge (by omega) (by omega))) (fun h72 => ?_)
  refine lv_bipush (v := (-3)) hx hb dMO_split_75 (by decide) ?_
  exact x_iret S hr hlk hw (by decide) (by decide) (⟨rfl, rfl⟩) dMO_split_77

set_option maxHeartbeats 4000000 in
set_option maxRecDepth 100000 in
theorem m_spl_ok (l : Launch) (D : va_G) (cI cZ cV : ClassId) (g : Nat) (mP : Nat) (mS : Nat) (mK : Nat) (mL : Nat) (mT : Nat) (mZ : Nat) (mD : Nat) (mH : Nat) (mG : Nat) (mC : Nat) (m1 : Nat) (m2 : Nat) (m3 : Nat) (m4 : Nat) (mB : Nat) (mX : Nat) (mY : Nat) (cuts : Int32) (siz : Int32) (ctr : Int32) (n1 : Nat) (k0 : Nat) (st : Nat → Int32) (su : Nat → Int32) (se : Nat → Int32) (pu : Nat → Int32) (ct : Nat → Int32) (xx : Nat → Int32) (yy : Nat → Int32) (dd : Nat → Int32) (tt : Nat → Int32) (zz : Nat → Int32) (ks : Nat → Int32) (ns : Nat → Int32) (ds : Nat → Int32) (ss : Nat → Int32) (l0 : Nat) (n : Nat) (t1 : Nat) (n0 : Nat) (hk : k0 < n1 ∧ n1 ≤ 8) (hE : ¬ fIsE (nI (t1 + 1)) (nI n0) = 0) (hs : ¬ st k0 = 3) (hl9 : su k0 = 0) (hc : l0 < 80) (ht : t1 + 1 ≤ n0 ∧ n0 ≤ 8) (hn : n + 4 * t1 ≤ 64) : XI l yMO_split cMO_split 8 (some .int) D (xT3 cI cZ cV) 2 0 0 [.ref g, .int (nI k0), .int (nI (t1 + 1)), .int (nI n0)] [(g, .inr (6, [.ref mP, .int (nI (n + 4 * t1)), .int (nI n1), .ref mS, .ref mK, .ref mL, .ref mT, .ref mZ, .ref mD, .ref mH, .ref mG, .ref mC, .int cuts, .int (nI l0), .ref m1, .ref m2, .ref m3, .ref m4, .ref mB, .int siz, .int ctr, .ref mX, .ref mY])), (mS, .inl (cI, 8, .inl st)), (mL, .inl (cZ, 8, .inl su)), (mK, .inl (cI, 8, .inl se)), (mP, .inl (cI, 64, .inl pu)), (mC, .inl (cI, 9, .inl ct)), (mX, .inl (cI, 8, .inl xx)), (mY, .inl (cI, 8, .inl yy)), (mD, .inl (cI, 72, .inl dd)), (mT, .inl (cI, 8, .inl tt)), (mZ, .inl (cI, 8, .inl zz)), (m1, .inl (cI, 80, .inl ks)), (m2, .inl (cI, 80, .inl ns)), (m3, .inl (cI, 80, .inl ds)), (m4, .inl (cI, 80, .inl ss))] (fun r u => r = nI n0 ∧ u = [(g, .inr (6, [.ref mP, .int (nI n), .int (nI n1), .ref mS, .ref mK, .ref mL, .ref mT, .ref mZ, .ref mD, .ref mH, .ref mG, .ref mC, .int (nI n0), .int (nI (l0 + 1)), .ref m1, .ref m2, .ref m3, .ref m4, .ref mB, .int siz, .int ctr, .ref mX, .ref mY])), (mS, .inl (cI, 8, .inl st)), (mL, .inl (cZ, 8, .inl su)), (mK, .inl (cI, 8, .inl se)), (mP, .inl (cI, 64, .inl (pyR pu (n + 4 * t1) (4 * t1)))), (mC, .inl (cI, 9, .inl ((moF (flF ct 0 9) xx yy pu (n + 4 * t1) t1 n0 (se k0) 4).1))), (mX, .inl (cI, 8, .inl ((moF (flF ct 0 9) xx yy pu (n + 4 * t1) t1 n0 (se k0) 4).2.1))), (mY, .inl (cI, 8, .inl ((moF (flF ct 0 9) xx yy pu (n + 4 * t1) t1 n0 (se k0) 4).2.2))), (mD, .inl (cI, 72, .inl (mdF dd (moF (flF ct 0 9) xx yy pu (n + 4 * t1) t1 n0 (se k0) 4).1 k0 n0))), (mT, .inl (cI, 8, .inl (upd tt k0 (nI (t1 + 1))))), (mZ, .inl (cI, 8, .inl (upd zz k0 (nI n0)))), (m1, .inl (cI, 80, .inl (upd ks l0 3))), (m2, .inl (cI, 80, .inl (upd ns l0 (nI k0)))), (m3, .inl (cI, 80, .inl (upd ds l0 (16 * nI (t1 + 1) + nI n0)))), (m4, .inl (cI, 80, .inl (upd ss l0 (fMix (fMix (fMix (jBef ss l0) 3) (nI k0)) (16 * nI (t1 + 1) + nI n0)))))]) := by
  intro sz
  refine x_ofW (Qc := fun A => va_Qi _ (xB D A) A) sz (by decide) (Nat.le_of_ble_eq_true rfl) ?_
  intro p e s m args below meth c A ls S hr hlk hnm hw hl
  obtain ⟨hx, hb, hml, hown, hts⟩ := id S
  have hl : lv_has ls 8 [(0, .ref g), (1, .int (nI k0)), (2, .int (nI (t1 + 1))), (3, .int (nI n0))] := hl
  refine lv_aload_n hx hb dMO_split_0 rfl (lv_at hl 0 rfl) ?_
  refine lv_iload_n hx hb dMO_split_1 rfl (lv_at hl 1 rfl) ?_
  refine x_calliD (ws' := [(g, .inr (6, [.ref mP, .int (nI (n + 4 * t1)), .int (nI n1), .ref mS, .ref mK, .ref mL, .ref mT, .ref mZ, .ref mD, .ref mH, .ref mG, .ref mC, .int cuts, .int (nI l0), .ref m1, .ref m2, .ref m3, .ref m4, .ref mB, .int siz, .int ctr, .ref mX, .ref mY])), (mS, .inl (cI, 8, .inl st)), (mL, .inl (cZ, 8, .inl su)), (mK, .inl (cI, 8, .inl se)), (mP, .inl (cI, 64, .inl pu)), (mC, .inl (cI, 9, .inl ct)), (mX, .inl (cI, 8, .inl xx)), (mY, .inl (cI, 8, .inl yy)), (mD, .inl (cI, 72, .inl dd)), (mT, .inl (cI, 8, .inl tt)), (mZ, .inl (cI, 8, .inl zz)), (m1, .inl (cI, 80, .inl ks)), (m2, .inl (cI, 80, .inl ns)), (m3, .inl (cI, 80, .inl ds)), (m4, .inl (cI, 80, .inl ss))]) hw [0] rfl rfl (x_runV (n := 1) (rest := []) (As := [.int (nI k0)]) S hw (m_none_n l D cI cZ cV g mP mS mK mL mT mZ mD mH mG mC m1 m2 m3 m4 mB mX mY (nI (n + 4 * t1)) cuts (nI l0) siz ctr n1 k0 hk _) xh_3_19 xh_3_16 xh_3_18 xsel_MO_none xh_1_6 (by decide +kernel) ⟨by decide, by decide⟩ [0] rfl rfl (ci := 6) (q0 := 0) rfl rfl rfl hl.1 rfl (Nat.le_of_ble_eq_true rfl) dMO_split_2 ⟨by decide, by decide⟩) rfl rfl (fun H locs hw => ?_)
  refine lv_if_ne (tgt := 24) hx hb dMO_split_5 (by decide) (fun h5 => absurd rfl h5) (fun h5 => ?_)
  refine lv_iload_n hx hb dMO_split_8 rfl (lv_at hl 2 rfl) ?_
  refine lv_iconst (v := 1) hx hb dMO_split_9 (by decide) ?_
  refine lv_icmp_lt (tgt := 24) hx hb dMO_split_10 (by decide) (fun h10 => absurd h10 (isE_of hE).1) (fun h10 => ?_)
  refine lv_iload_n hx hb dMO_split_13 rfl (lv_at hl 2 rfl) ?_
  refine lv_iload_n hx hb dMO_split_14 rfl (lv_at hl 3 rfl) ?_
  refine lv_icmp_gt (tgt := 24) hx hb dMO_split_15 (by decide) (fun h15 => absurd h15 (isE_of hE).2.1) (fun h15 => ?_)
  refine lv_iload_n hx hb dMO_split_18 rfl (lv_at hl 3 rfl) ?_
  refine lv_bipush (v := 8) hx hb dMO_split_19 (by decide) ?_
  refine lv_icmp_le (tgt := 26) hx hb dMO_split_21 (by decide) (fun h21 => ?_) (fun h21 => absurd (Int32.not_lt.mp (isE_of hE).2.2) h21)
  refine lv_aload_n hx hb dMO_split_26 rfl (lv_at hl 0 rfl) ?_
  refine x_get S hw (C := RMO) (T := TMO) (N := 23) inMO 0 rfl rfl 3 (by decide) xh_2_148 (v := .ref mS) rfl dMO_split_27 ?_
  refine lv_iload_n hx hb dMO_split_30 rfl (lv_at hl 1 rfl) ?_
  refine x_iald S hw 1 0 rfl rfl (j := k0) (vp_in_nI (by omega) (by omega)) (nI_clamp (by omega)) dMO_split_31 ?_
  refine lv_iconst (v := 3) hx hb dMO_split_32 (by decide) ?_
  refine lv_icmp_ne (tgt := 39) hx hb dMO_split_33 (by decide) (fun h33 => ?_) (fun h33 => absurd h33 hs)
  refine lv_aload_n hx hb dMO_split_39 rfl (lv_at hl 0 rfl) ?_
  refine x_get S hw (C := RMO) (T := TMO) (N := 23) inMO 0 rfl rfl 5 (by decide) xh_2_150 (v := .ref mL) rfl dMO_split_40 ?_
  refine lv_iload_n hx hb dMO_split_43 rfl (lv_at hl 1 rfl) ?_
  refine x_zald S hw 2 1 rfl rfl (j := k0) (vp_in_nI (by omega) (by omega)) (nI_clamp (by omega)) dMO_split_44 ?_
  refine lv_if_eq (tgt := 51) hx hb dMO_split_45 (by decide) (fun h45 => ?_) (fun h45 => absurd hl9 h45)
  refine lv_aload_n hx hb dMO_split_51 rfl (lv_at hl 0 rfl) ?_
  refine x_get S hw (C := RMO) (T := TMO) (N := 23) inMO 0 rfl rfl 13 (by decide) xh_2_158 (v := .int (nI l0)) rfl dMO_split_52 ?_
  refine lv_bipush (v := 80) hx hb dMO_split_55 (by decide) ?_
  refine lv_icmp_ne (tgt := 63) hx hb dMO_split_57 (by decide) (fun h57 => ?_) (fun h57 => absurd h57 (fun e => by have := (nI_eq (a := l0) (b := 80) (by omega) (by decide)).mp e; omega))
  refine lv_aload_n hx hb dMO_split_63 rfl (lv_at hl 0 rfl) ?_
  refine x_get S hw (C := RMO) (T := TMO) (N := 23) inMO 0 rfl rfl 1 (by decide) xh_2_146 (v := .int (nI (n + 4 * t1))) rfl dMO_split_64 ?_
  refine lv_iconst (v := 4) hx hb dMO_split_67 (by decide) ?_
  refine lv_iload_n hx hb dMO_split_68 rfl (lv_at hl 2 rfl) ?_
  refine lv_iconst (v := 1) hx hb dMO_split_69 (by decide) ?_
  refine lv_isub hx hb dMO_split_70 ?_
  refine x_topi (y := nI t1) (nI_pred t1) ?_
  refine lv_imul hx hb dMO_split_71 ?_
  refine x_topi (y := nI (4 * t1)) (pk_mul 4 t1) ?_
  refine lv_icmp_ge (tgt := 78) hx hb dMO_split_72 (by decide) (fun h72 => ?_) (fun h72 => absurd (nI_le (by omega) (by omega)) h72)
  refine lv_iconst (v := 0) hx hb dMO_split_78 (by decide) ?_
  refine lv_istore (lv' := [(4, .int 0), (0, .ref g), (1, .int (nI k0)), (2, .int (nI (t1 + 1))), (3, .int (nI n0))]) hx hb dMO_split_79 hl (by decide) rfl (fun ls hl => ?_)
  refine ml_sp1 rfl ⟨rfl, rfl⟩ S g mP mS mK mL mT mZ mD mH mG mC m1 m2 m3 m4 mB mX mY (nI (n + 4 * t1)) (nI n1) cuts (nI l0) siz ctr st su se pu ct xx yy dd tt zz ks ns ds ss k0 t1 n0 (fun ls H locs hw hl => ?_) 9 0 ls _ _ (Nat.zero_add _) hw (lv_sub hl [1, 2, 3, 4, 0] rfl)
  refine lv_iconst (v := 0) hx hb dMO_split_102 (by decide) ?_
  refine lv_istore (lv' := [(4, .int 0), (0, .ref g), (1, .int (nI k0)), (2, .int (nI (t1 + 1))), (3, .int (nI n0))]) hx hb dMO_split_103 hl (by decide) rfl (fun ls hl => ?_)
  have hw : xW D (xT3 cI cZ cV) A s.heap H locs [(g, .inr (6, [.ref mP, .int (nI (n + 4 * t1)), .int (nI n1), .ref mS, .ref mK, .ref mL, .ref mT, .ref mZ, .ref mD, .ref mH, .ref mG, .ref mC, .int cuts, .int (nI l0), .ref m1, .ref m2, .ref m3, .ref m4, .ref mB, .int siz, .int ctr, .ref mX, .ref mY])), (mS, .inl (cI, 8, .inl st)), (mL, .inl (cZ, 8, .inl su)), (mK, .inl (cI, 8, .inl se)), (mP, .inl (cI, 64, .inl (pyR pu (n + 4 * t1) (0 * t1)))), (mC, .inl (cI, 9, .inl ((moF (flF ct 0 9) xx yy pu (n + 4 * t1) t1 n0 (se k0) 0).1))), (mX, .inl (cI, 8, .inl ((moF (flF ct 0 9) xx yy pu (n + 4 * t1) t1 n0 (se k0) 0).2.1))), (mY, .inl (cI, 8, .inl ((moF (flF ct 0 9) xx yy pu (n + 4 * t1) t1 n0 (se k0) 0).2.2))), (mD, .inl (cI, 72, .inl dd)), (mT, .inl (cI, 8, .inl tt)), (mZ, .inl (cI, 8, .inl zz)), (m1, .inl (cI, 80, .inl ks)), (m2, .inl (cI, 80, .inl ns)), (m3, .inl (cI, 80, .inl ds)), (m4, .inl (cI, 80, .inl ss))] s := by rw [Nat.zero_mul]; exact hw
  refine ml_sp6 rfl ⟨rfl, rfl⟩ S g mP mS mK mL mT mZ mD mH mG mC m1 m2 m3 m4 mB mX mY (nI n1) cuts (nI l0) siz ctr st su se pu (flF ct 0 9) xx yy dd tt zz ks ns ds ss (n + 4 * t1) n k0 t1 n0 (by omega) rfl hn (by omega) (by omega) (fun ls H locs hw hl => ?_) 4 0 ls _ _ (Nat.zero_add _) hw (lv_sub hl [1, 2, 3, 4, 0] rfl)
  rw [Nat.zero_mul, Nat.add_zero] at hw
  refine lv_aload_n hx hb dMO_split_288 rfl (lv_at hl 0 rfl) ?_
  refine lv_iload_n hx hb dMO_split_289 rfl (lv_at hl 3 rfl) ?_
  refine x_put S hw (C := RMO) (T := TMO) (N := 23) inMO tyMO tyMO_ok nmMO 0 rfl rfl 12 (by decide) xh_2_157 rfl (v := .int (nI n0)) rfl rfl (Nat.le_of_ble_eq_true rfl) (ws' := [(g, .inr (6, [.ref mP, .int (nI n), .int (nI n1), .ref mS, .ref mK, .ref mL, .ref mT, .ref mZ, .ref mD, .ref mH, .ref mG, .ref mC, .int (nI n0), .int (nI l0), .ref m1, .ref m2, .ref m3, .ref m4, .ref mB, .int siz, .int ctr, .ref mX, .ref mY])), (mS, .inl (cI, 8, .inl st)), (mL, .inl (cZ, 8, .inl su)), (mK, .inl (cI, 8, .inl se)), (mP, .inl (cI, 64, .inl (pyR pu (n + 4 * t1) (4 * t1)))), (mC, .inl (cI, 9, .inl ((moF (flF ct 0 9) xx yy pu (n + 4 * t1) t1 n0 (se k0) 4).1))), (mX, .inl (cI, 8, .inl ((moF (flF ct 0 9) xx yy pu (n + 4 * t1) t1 n0 (se k0) 4).2.1))), (mY, .inl (cI, 8, .inl ((moF (flF ct 0 9) xx yy pu (n + 4 * t1) t1 n0 (se k0) 4).2.2))), (mD, .inl (cI, 72, .inl dd)), (mT, .inl (cI, 8, .inl tt)), (mZ, .inl (cI, 8, .inl zz)), (m1, .inl (cI, 80, .inl ks)), (m2, .inl (cI, 80, .inl ns)), (m3, .inl (cI, 80, .inl ds)), (m4, .inl (cI, 80, .inl ss))]) rfl dMO_split_290 (fun H locs hw => ?_)
  refine lv_iconst (v := 1) hx hb dMO_split_293 (by decide) ?_
  refine lv_istore (lv' := [(4, .int 1), (0, .ref g), (1, .int (nI k0)), (2, .int (nI (t1 + 1))), (3, .int (nI n0))]) hx hb dMO_split_294 hl (by decide) rfl (fun ls hl => ?_)
  refine ml_sp7 rfl ⟨rfl, rfl⟩ S g mP mS mK mL mT mZ mD mH mG mC m1 m2 m3 m4 mB mX mY (nI n) (nI n1) (nI n0) (nI l0) siz ctr st su se (pyR pu (n + 4 * t1) (4 * t1)) ((moF (flF ct 0 9) xx yy pu (n + 4 * t1) t1 n0 (se k0) 4).1) ((moF (flF ct 0 9) xx yy pu (n + 4 * t1) t1 n0 (se k0) 4).2.1) ((moF (flF ct 0 9) xx yy pu (n + 4 * t1) t1 n0 (se k0) 4).2.2) dd tt zz ks ns ds ss k0 t1 n0 (by omega) (by omega) (fun ls H locs hw hl => ?_) n0 0 ls _ _ (Nat.zero_add _) hw (lv_sub hl [1, 2, 3, 4, 0] rfl)
  refine lv_aload_n hx hb dMO_split_336 rfl (lv_at hl 0 rfl) ?_
  refine x_get S hw (C := RMO) (T := TMO) (N := 23) inMO 0 rfl rfl 6 (by decide) xh_2_151 (v := .ref mT) rfl dMO_split_337 ?_
  refine lv_iload_n hx hb dMO_split_340 rfl (lv_at hl 1 rfl) ?_
  refine lv_iload_n hx hb dMO_split_341 rfl (lv_at hl 2 rfl) ?_
  refine x_iast S hw 9 0 rfl rfl (j := k0) (vp_in_nI (by omega) (by omega)) (nI_clamp (by omega)) (ws' := [(g, .inr (6, [.ref mP, .int (nI n), .int (nI n1), .ref mS, .ref mK, .ref mL, .ref mT, .ref mZ, .ref mD, .ref mH, .ref mG, .ref mC, .int (nI n0), .int (nI l0), .ref m1, .ref m2, .ref m3, .ref m4, .ref mB, .int siz, .int ctr, .ref mX, .ref mY])), (mS, .inl (cI, 8, .inl st)), (mL, .inl (cZ, 8, .inl su)), (mK, .inl (cI, 8, .inl se)), (mP, .inl (cI, 64, .inl (pyR pu (n + 4 * t1) (4 * t1)))), (mC, .inl (cI, 9, .inl ((moF (flF ct 0 9) xx yy pu (n + 4 * t1) t1 n0 (se k0) 4).1))), (mX, .inl (cI, 8, .inl ((moF (flF ct 0 9) xx yy pu (n + 4 * t1) t1 n0 (se k0) 4).2.1))), (mY, .inl (cI, 8, .inl ((moF (flF ct 0 9) xx yy pu (n + 4 * t1) t1 n0 (se k0) 4).2.2))), (mD, .inl (cI, 72, .inl (mdF dd ((moF (flF ct 0 9) xx yy pu (n + 4 * t1) t1 n0 (se k0) 4).1) k0 n0))), (mT, .inl (cI, 8, .inl (upd tt k0 (nI (t1 + 1))))), (mZ, .inl (cI, 8, .inl zz)), (m1, .inl (cI, 80, .inl ks)), (m2, .inl (cI, 80, .inl ns)), (m3, .inl (cI, 80, .inl ds)), (m4, .inl (cI, 80, .inl ss))]) rfl dMO_split_342 (fun H locs hw => ?_)
  refine lv_aload_n hx hb dMO_split_343 rfl (lv_at hl 0 rfl) ?_
  refine x_get S hw (C := RMO) (T := TMO) (N := 23) inMO 0 rfl rfl 7 (by decide) xh_2_152 (v := .ref mZ) rfl dMO_split_344 ?_
  refine lv_iload_n hx hb dMO_split_347 rfl (lv_at hl 1 rfl) ?_
  refine lv_iload_n hx hb dMO_split_348 rfl (lv_at hl 3 rfl) ?_
  refine x_iast S hw 10 0 rfl rfl (j := k0) (vp_in_nI (by omega) (by omega)) (nI_clamp (by omega)) (ws' := [(g, .inr (6, [.ref mP, .int (nI n), .int (nI n1), .ref mS, .ref mK, .ref mL, .ref mT, .ref mZ, .ref mD, .ref mH, .ref mG, .ref mC, .int (nI n0), .int (nI l0), .ref m1, .ref m2, .ref m3, .ref m4, .ref mB, .int siz, .int ctr, .ref mX, .ref mY])), (mS, .inl (cI, 8, .inl st)), (mL, .inl (cZ, 8, .inl su)), (mK, .inl (cI, 8, .inl se)), (mP, .inl (cI, 64, .inl (pyR pu (n + 4 * t1) (4 * t1)))), (mC, .inl (cI, 9, .inl ((moF (flF ct 0 9) xx yy pu (n + 4 * t1) t1 n0 (se k0) 4).1))), (mX, .inl (cI, 8, .inl ((moF (flF ct 0 9) xx yy pu (n + 4 * t1) t1 n0 (se k0) 4).2.1))), (mY, .inl (cI, 8, .inl ((moF (flF ct 0 9) xx yy pu (n + 4 * t1) t1 n0 (se k0) 4).2.2))), (mD, .inl (cI, 72, .inl (mdF dd ((moF (flF ct 0 9) xx yy pu (n + 4 * t1) t1 n0 (se k0) 4).1) k0 n0))), (mT, .inl (cI, 8, .inl (upd tt k0 (nI (t1 + 1))))), (mZ, .inl (cI, 8, .inl (upd zz k0 (nI n0)))), (m1, .inl (cI, 80, .inl ks)), (m2, .inl (cI, 80, .inl ns)), (m3, .inl (cI, 80, .inl ds)), (m4, .inl (cI, 80, .inl ss))]) rfl dMO_split_349 (fun H locs hw => ?_)
  refine lv_aload_n hx hb dMO_split_350 rfl (lv_at hl 0 rfl) ?_
  refine lv_iconst (v := 3) hx hb dMO_split_351 (by decide) ?_
  refine lv_iload_n hx hb dMO_split_352 rfl (lv_at hl 1 rfl) ?_
  refine lv_bipush (v := 16) hx hb dMO_split_353 (by decide) ?_
  refine lv_iload_n hx hb dMO_split_355 rfl (lv_at hl 2 rfl) ?_
  refine lv_imul hx hb dMO_split_356 ?_
  refine lv_iload_n hx hb dMO_split_357 rfl (lv_at hl 3 rfl) ?_
  refine lv_iadd hx hb dMO_split_358 ?_
  refine x_callvD (ws' := [(g, .inr (6, [.ref mP, .int (nI n), .int (nI n1), .ref mS, .ref mK, .ref mL, .ref mT, .ref mZ, .ref mD, .ref mH, .ref mG, .ref mC, .int (nI n0), .int (nI (l0 + 1)), .ref m1, .ref m2, .ref m3, .ref m4, .ref mB, .int siz, .int ctr, .ref mX, .ref mY])), (mS, .inl (cI, 8, .inl st)), (mL, .inl (cZ, 8, .inl su)), (mK, .inl (cI, 8, .inl se)), (mP, .inl (cI, 64, .inl (pyR pu (n + 4 * t1) (4 * t1)))), (mC, .inl (cI, 9, .inl ((moF (flF ct 0 9) xx yy pu (n + 4 * t1) t1 n0 (se k0) 4).1))), (mX, .inl (cI, 8, .inl ((moF (flF ct 0 9) xx yy pu (n + 4 * t1) t1 n0 (se k0) 4).2.1))), (mY, .inl (cI, 8, .inl ((moF (flF ct 0 9) xx yy pu (n + 4 * t1) t1 n0 (se k0) 4).2.2))), (mD, .inl (cI, 72, .inl (mdF dd ((moF (flF ct 0 9) xx yy pu (n + 4 * t1) t1 n0 (se k0) 4).1) k0 n0))), (mT, .inl (cI, 8, .inl (upd tt k0 (nI (t1 + 1))))), (mZ, .inl (cI, 8, .inl (upd zz k0 (nI n0)))), (m1, .inl (cI, 80, .inl (upd ks l0 3))), (m2, .inl (cI, 80, .inl (upd ns l0 (nI k0)))), (m3, .inl (cI, 80, .inl (upd ds l0 ((16 * (nI (t1 + 1))) + nI n0)))), (m4, .inl (cI, 80, .inl (upd ss l0 (fMix (fMix (fMix (jBef ss l0) 3) (nI k0)) ((16 * (nI (t1 + 1))) + nI n0)))))]) hw [0, 11, 12, 13, 14] rfl rfl (x_runV (n := 3) (rest := []) (As := [.int 3, .int (nI k0), .int ((16 * (nI (t1 + 1))) + nI n0)]) S hw (m_write l D cI cZ cV g mP mS mK mL mT mZ mD mH mG mC m1 m2 m3 m4 mB mX mY (nI n) (nI n1) (nI n0) siz ctr ks ns ds ss l0 3 (nI k0) ((16 * (nI (t1 + 1))) + nI n0) hc _) xh_3_6 xh_3_3 xh_3_5 xsel_MO_write xh_1_6 (by decide +kernel) ⟨by decide, by decide⟩ [0, 11, 12, 13, 14] rfl rfl (ci := 6) (q0 := 0) rfl rfl rfl hl.1 rfl (Nat.le_of_ble_eq_true rfl) dMO_split_359 ⟨by decide, by decide⟩) rfl rfl (fun H locs hw => ?_)
  refine lv_iload_n hx hb dMO_split_362 rfl (lv_at hl 3 rfl) ?_
  exact x_iret S hr hlk hw (by decide) (by decide) (⟨rfl, rfl⟩) dMO_split_363
