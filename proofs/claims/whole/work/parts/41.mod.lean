set_option maxHeartbeats 4000000 in
set_option maxRecDepth 100000 in
theorem ml_anI {p : Program} {l : Launch} {e : Env} {s : State} {m : MethodId} {args : Array Value} {below : List Frame} {meth : Method} {c : Code} {Q : State → Prop} {D : va_G} {A : Nat → Prop} {cI cZ cV : ClassId} {H0 : Heap} {R : Room} {cells slots : Nat} (hR : R = (xR 2 0 0)) (hC : cells = 0 ∧ slots = 0) (S : CallFix p m c cMO_atNothing 4 s args xAll "EscrowedVersionsModel") (g : Nat) (mP : Nat) (mS : Nat) (mK : Nat) (mL : Nat) (mT : Nat) (mZ : Nat) (mD : Nat) (mH : Nat) (mG : Nat) (mC : Nat) (m1 : Nat) (m2 : Nat) (m3 : Nat) (m4 : Nat) (mB : Nat) (mX : Nat) (mY : Nat) (cash : Int32) (cnt : Int32) (cuts : Int32) (lin : Int32) (siz : Int32) (ctr : Int32) (xx : Nat → Int32) (zz : Nat → Int32) (n9 : Int32) (l0 : Nat) (hl0 : l0 < 8) (hA : ∀ j, j < l0 → toN (aiF xx zz l0 j j ^^^ aiF xx zz l0 j l0) < 256) (hB : ∀ j, j < l0 → 0 < toN (xx j ^^^ xx l0) ∧ toN (xx j ^^^ xx l0) < 16)
    (kk : ∀ (ls : Array Slot) (H : Heap) (locs : List Loc), xW D (xT3 cI cZ cV) A H0 H locs [(g, .inr (6, [.ref mP, .int cash, .int cnt, .ref mS, .ref mK, .ref mL, .ref mT, .ref mZ, .ref mD, .ref mH, .ref mG, .ref mC, .int cuts, .int lin, .ref m1, .ref m2, .ref m3, .ref m4, .ref mB, .int siz, .int ctr, .ref mX, .ref mY])), (mX, .inl (cI, 8, .inl xx)), (mY, .inl (cI, 8, .inl (aiF xx zz l0 l0)))] s → lv_has ls 4 [(0, .ref g), (1, .int n9), (2, .int (nI l0)), (3, .int (nI l0))] → W p l e R s m args below meth c H locs cells slots Q (F0 m 56 ls [])) :
    ∀ (n k : Nat) (ls : Array Slot) (H : Heap) (locs : List Loc), k + n = l0 → xW D (xT3 cI cZ cV) A H0 H locs [(g, .inr (6, [.ref mP, .int cash, .int cnt, .ref mS, .ref mK, .ref mL, .ref mT, .ref mZ, .ref mD, .ref mH, .ref mG, .ref mC, .int cuts, .int lin, .ref m1, .ref m2, .ref m3, .ref m4, .ref mB, .int siz, .int ctr, .ref mX, .ref mY])), (mX, .inl (cI, 8, .inl xx)), (mY, .inl (cI, 8, .inl (aiF xx zz l0 k)))] s → lv_has ls 4 [(0, .ref g), (1, .int n9), (2, .int (nI l0)), (3, .int (nI k))] → W p l e R s m args below meth c H locs cells slots Q (F0 m 10 ls []) := by
  obtain ⟨hx, hb, hml, hown, hts⟩ := id S
  subst hR
  obtain ⟨rfl, rfl⟩ := hC
  intro n
  induction n with
  | zero =>
    intro k ls H locs hk hw hl
    obtain rfl : l0 = k := by omega
    refine lv_iload_n hx hb dMO_atNothing_10 rfl (lv_at hl 3 rfl) ?_
    refine lv_iload_n hx hb dMO_atNothing_11 rfl (lv_at hl 2 rfl) ?_
    refine lv_icmp_ge (tgt := 56) hx hb dMO_atNothing_12 (by decide) (fun h12 => ?_) (fun h12 => absurd (nI_le (Nat.le_refl _) (by omega)) h12)
    exact kk ls H locs hw (lv_sub hl [0, 1, 2, 3] rfl)
  | succ n ih =>
    intro k ls H locs hk hw hl
    have hkN : k < l0 := by omega
    refine lv_iload_n hx hb dMO_atNothing_10 rfl (lv_at hl 3 rfl) ?_
    refine lv_iload_n hx hb dMO_atNothing_11 rfl (lv_at hl 2 rfl) ?_
    refine lv_icmp_ge (tgt := 56) hx hb dMO_atNothing_12 (by decide) (fun h12 => absurd h12 (nI_ge hkN (by omega))) (fun h12 => ?_)
    refine lv_aload_n hx hb dMO_atNothing_15 rfl (lv_at hl 0 rfl) ?_
    refine x_get S hw (C := RMO) (T := TMO) (N := 23) inMO 0 rfl rfl 22 (by decide) xh_2_167 (v := .ref mY) rfl dMO_atNothing_16 ?_
    refine lv_iload_n hx hb dMO_atNothing_19 rfl (lv_at hl 3 rfl) ?_
    refine lv_aload_n hx hb dMO_atNothing_20 rfl (lv_at hl 0 rfl) ?_
    refine x_get S hw (C := RMO) (T := TMO) (N := 23) inMO 0 rfl rfl 22 (by decide) xh_2_167 (v := .ref mY) rfl dMO_atNothing_21 ?_
    refine lv_iload_n hx hb dMO_atNothing_24 rfl (lv_at hl 3 rfl) ?_
    refine x_iald S hw 2 0 rfl rfl (j := k) (vp_in_nI (by omega) (by omega)) (nI_clamp (by omega)) dMO_atNothing_25 ?_
    refine lv_aload_n hx hb dMO_atNothing_26 rfl (lv_at hl 0 rfl) ?_
    refine x_get S hw (C := RMO) (T := TMO) (N := 23) inMO 0 rfl rfl 22 (by decide) xh_2_167 (v := .ref mY) rfl dMO_atNothing_27 ?_
    refine lv_iload_n hx hb dMO_atNothing_30 rfl (lv_at hl 2 rfl) ?_
    refine x_iald S hw 2 0 rfl rfl (j := l0) (vp_in_nI (by omega) (by omega)) (nI_clamp (by omega)) dMO_atNothing_31 ?_
    refine lv_ixor hx hb dMO_atNothing_32 ?_
    refine x_topi (y := nI (toN (aiF xx zz l0 k k ^^^ aiF xx zz l0 k l0))) ((nI_toN _).symm) ?_
    refine lv_aload_n hx hb dMO_atNothing_33 rfl (lv_at hl 0 rfl) ?_
    refine x_get S hw (C := RMO) (T := TMO) (N := 23) inMO 0 rfl rfl 21 (by decide) xh_2_166 (v := .ref mX) rfl dMO_atNothing_34 ?_
    refine lv_iload_n hx hb dMO_atNothing_37 rfl (lv_at hl 3 rfl) ?_
    refine x_iald S hw 1 0 rfl rfl (j := k) (vp_in_nI (by omega) (by omega)) (nI_clamp (by omega)) dMO_atNothing_38 ?_
    refine lv_aload_n hx hb dMO_atNothing_39 rfl (lv_at hl 0 rfl) ?_
    refine x_get S hw (C := RMO) (T := TMO) (N := 23) inMO 0 rfl rfl 21 (by decide) xh_2_166 (v := .ref mX) rfl dMO_atNothing_40 ?_
    refine lv_iload_n hx hb dMO_atNothing_43 rfl (lv_at hl 2 rfl) ?_
    refine x_iald S hw 1 0 rfl rfl (j := l0) (vp_in_nI (by omega) (by omega)) (nI_clamp (by omega)) dMO_atNothing_44 ?_
    refine lv_ixor hx hb dMO_atNothing_45 ?_
    refine x_topi (y := nI (toN (xx k ^^^ xx l0))) ((nI_toN _).symm) ?_
    refine x_calliD (ws' := [(g, .inr (6, [.ref mP, .int cash, .int cnt, .ref mS, .ref mK, .ref mL, .ref mT, .ref mZ, .ref mD, .ref mH, .ref mG, .ref mC, .int cuts, .int lin, .ref m1, .ref m2, .ref m3, .ref m4, .ref mB, .int siz, .int ctr, .ref mX, .ref mY])), (mX, .inl (cI, 8, .inl xx)), (mY, .inl (cI, 8, .inl (aiF xx zz l0 k)))]) hw [] rfl rfl (x_runS (n := 2) (rest := [.int (nI k), .ref mY]) (As := [.int (nI (toN (aiF xx zz l0 k k ^^^ aiF xx zz l0 k l0))), .int (nI (toN (xx k ^^^ xx l0)))]) S hw (m_quot l D cI cZ cV (toN (aiF xx zz l0 k k ^^^ aiF xx zz l0 k l0)) (toN (xx k ^^^ xx l0)) (hA k hkN) (hB k hkN) _) xh_3_57 xh_3_55 xh_3_56 xh_1_6 (by decide +kernel) ⟨by decide, by decide⟩ [] rfl rfl rfl hl.1 rfl (Nat.le_of_ble_eq_true rfl) dMO_atNothing_46 ⟨by decide, by decide⟩) rfl rfl (fun H locs hw => ?_)
    refine x_iast S hw 2 0 rfl rfl (j := k) (vp_in_nI (by omega) (by omega)) (nI_clamp (by omega)) (ws' := [(g, .inr (6, [.ref mP, .int cash, .int cnt, .ref mS, .ref mK, .ref mL, .ref mT, .ref mZ, .ref mD, .ref mH, .ref mG, .ref mC, .int cuts, .int lin, .ref m1, .ref m2, .ref m3, .ref m4, .ref mB, .int siz, .int ctr, .ref mX, .ref mY])), (mX, .inl (cI, 8, .inl xx)), (mY, .inl (cI, 8, .inl (upd (aiF xx zz l0 k) k (nI (gm (toN (aiF xx zz l0 k k ^^^ aiF xx zz l0 k l0)) (iv (toN (xx k ^^^ xx l0))))))))]) rfl dMO_atNothing_49 (fun H locs hw => ?_)
    refine lv_iinc (v := nI (k + 1)) (lv' := [(3, .int (nI (k + 1))), (0, .ref g), (1, .int n9), (2, .int (nI l0))]) hx hb dMO_atNothing_50 hl (k := 3) rfl ((nI_succ _).symm) (by decide) rfl (fun ls hl => ?_)
    refine lv_goto (tgt := 10) hx hb dMO_atNothing_53 (by decide) ?_
    have e0 : aiF xx zz l0 (k + 1) = upd (aiF xx zz l0 k) k (nI (gm (toN (aiF xx zz l0 k k ^^^ aiF xx zz l0 k l0)) (iv (toN (xx k ^^^ xx l0))))) := by simp only [aiF]
    refine ih (k + 1) ls H locs (by omega) ?_ ?_
    · rw [e0]; exact hw
    · exact lv_sub hl [1, 2, 3, 0] rfl

set_option maxHeartbeats 4000000 in
set_option maxRecDepth 100000 in
theorem ml_anO {p : Program} {l : Launch} {e : Env} {s : State} {m : MethodId} {args : Array Value} {below : List Frame} {meth : Method} {c : Code} {Q : State → Prop} {D : va_G} {A : Nat → Prop} {cI cZ cV : ClassId} {H0 : Heap} {R : Room} {cells slots : Nat} (hR : R = (xR 2 0 0)) (hC : cells = 0 ∧ slots = 0) (S : CallFix p m c cMO_atNothing 4 s args xAll "EscrowedVersionsModel") (g : Nat) (mP : Nat) (mS : Nat) (mK : Nat) (mL : Nat) (mT : Nat) (mZ : Nat) (mD : Nat) (mH : Nat) (mG : Nat) (mC : Nat) (m1 : Nat) (m2 : Nat) (m3 : Nat) (m4 : Nat) (mB : Nat) (mX : Nat) (mY : Nat) (cash : Int32) (cnt : Int32) (cuts : Int32) (lin : Int32) (siz : Int32) (ctr : Int32) (xx : Nat → Int32) (yy : Nat → Int32) (m0 : Nat) (hm : m0 < 8) (hA : ∀ k l, k + l = m0 → ∀ j, j < l → toN (aiF xx (aoF xx yy (m0 + 1) k) l j j ^^^ aiF xx (aoF xx yy (m0 + 1) k) l j l) < 256) (hB : ∀ l j, j < l → l ≤ m0 → 0 < toN (xx j ^^^ xx l) ∧ toN (xx j ^^^ xx l) < 16)
    (kk : ∀ (ls : Array Slot) (H : Heap) (locs : List Loc), xW D (xT3 cI cZ cV) A H0 H locs [(g, .inr (6, [.ref mP, .int cash, .int cnt, .ref mS, .ref mK, .ref mL, .ref mT, .ref mZ, .ref mD, .ref mH, .ref mG, .ref mC, .int cuts, .int lin, .ref m1, .ref m2, .ref m3, .ref m4, .ref mB, .int siz, .int ctr, .ref mX, .ref mY])), (mX, .inl (cI, 8, .inl xx)), (mY, .inl (cI, 8, .inl (aoF xx yy (m0 + 1) m0)))] s → lv_has ls 4 [(0, .ref g), (1, .int (nI (m0 + 1))), (2, .int (nI 0))] → W p l e R s m args below meth c H locs cells slots Q (F0 m 62 ls [])) :
    ∀ (n k : Nat) (ls : Array Slot) (H : Heap) (locs : List Loc), k + n = m0 → xW D (xT3 cI cZ cV) A H0 H locs [(g, .inr (6, [.ref mP, .int cash, .int cnt, .ref mS, .ref mK, .ref mL, .ref mT, .ref mZ, .ref mD, .ref mH, .ref mG, .ref mC, .int cuts, .int lin, .ref m1, .ref m2, .ref m3, .ref m4, .ref mB, .int siz, .int ctr, .ref mX, .ref mY])), (mX, .inl (cI, 8, .inl xx)), (mY, .inl (cI, 8, .inl (aoF xx yy (m0 + 1) k)))] s → lv_has ls 4 [(0, .ref g), (1, .int (nI (m0 + 1))), (2, .int (nI n))] → W p l e R s m args below meth c H locs cells slots Q (F0 m 4 ls []) := by
  obtain ⟨hx, hb, hml, hown, hts⟩ := id S
  subst hR
  obtain ⟨rfl, rfl⟩ := hC
  intro n
  induction n with
  | zero =>
    intro k ls H locs hk hw hl
    obtain rfl : m0 = k := by omega
    refine lv_iload_n hx hb dMO_atNothing_4 rfl (lv_at hl 2 rfl) ?_
    refine lv_if_le (tgt := 62) hx hb dMO_atNothing_5 (by decide) (fun h5 => ?_) (fun h5 => absurd (by decide +kernel) h5)
    exact kk ls H locs hw (lv_sub hl [0, 1, 2] rfl)
  | succ n ih =>
    intro k ls H locs hk hw hl
    have hkN : k < m0 := by omega
    refine lv_iload_n hx hb dMO_atNothing_4 rfl (lv_at hl 2 rfl) ?_
    refine lv_if_le (tgt := 62) hx hb dMO_atNothing_5 (by decide) (fun h5 => absurd h5 (nI_nle (n := n + 1) (by omega) (by omega))) (fun h5 => ?_)
    refine lv_iconst (v := 0) hx hb dMO_atNothing_8 (by decide) ?_
    refine lv_istore_n (lv' := [(3, .int 0), (0, .ref g), (1, .int (nI (m0 + 1))), (2, .int (nI (n + 1)))]) hx hb dMO_atNothing_9 rfl hl (by decide) rfl (fun ls hl => ?_)
    refine ml_anI rfl ⟨rfl, rfl⟩ S g mP mS mK mL mT mZ mD mH mG mC m1 m2 m3 m4 mB mX mY cash cnt cuts lin siz ctr xx (aoF xx yy (m0 + 1) k) (nI (m0 + 1)) (n + 1) (by omega) (hA k (n + 1) hk) (fun j hj => hB (n + 1) j hj (by omega)) (fun ls H locs hw hl => ?_) (n + 1) 0 ls _ _ (Nat.zero_add _) hw (lv_sub hl [1, 2, 3, 0] rfl)
    refine lv_iinc (v := nI n) (lv' := [(2, .int (nI n)), (0, .ref g), (1, .int (nI (m0 + 1))), (3, .int (nI (n + 1)))]) hx hb dMO_atNothing_56 hl (k := 2) rfl (by rw [show Int32.ofInt (-1) = (-1 : Int32) by decide, pk_m1]) (by decide) rfl (fun ls hl => ?_)
    refine lv_goto (tgt := 4) hx hb dMO_atNothing_59 (by decide) ?_
    have e0 : aoF xx yy (m0 + 1) (k + 1) = aiF xx (aoF xx yy (m0 + 1) k) (n + 1) (n + 1) := by simp only [aoF]; rw [show m0 + 1 - 1 - k = n + 1 by omega]
    refine ih (k + 1) ls H locs (by omega) ?_ ?_
    · rw [e0]; exact hw
    · exact lv_sub hl [1, 2, 0] rfl

set_option maxHeartbeats 4000000 in
set_option maxRecDepth 100000 in
theorem ml_anV {p : Program} {l : Launch} {e : Env} {s : State} {m : MethodId} {args : Array Value} {below : List Frame} {meth : Method} {c : Code} {Q : State → Prop} {D : va_G} {A : Nat → Prop} {cI cZ cV : ClassId} {H0 : Heap} {R : Room} {cells slots : Nat} (hR : R = (xR 2 0 0)) (hC : cells = 0 ∧ slots = 0) (S : CallFix p m c cMO_atNothing 4 s args xAll "EscrowedVersionsModel") (g : Nat) (mP : Nat) (mS : Nat) (mK : Nat) (mL : Nat) (mT : Nat) (mZ : Nat) (mD : Nat) (mH : Nat) (mG : Nat) (mC : Nat) (m1 : Nat) (m2 : Nat) (m3 : Nat) (m4 : Nat) (mB : Nat) (mX : Nat) (mY : Nat) (cash : Int32) (cnt : Int32) (cuts : Int32) (lin : Int32) (siz : Int32) (ctr : Int32) (xx : Nat → Int32) (zz : Nat → Int32) (m0 : Nat) (hm : m0 < 8)
    (kk : ∀ (ls : Array Slot) (H : Heap) (locs : List Loc), xW D (xT3 cI cZ cV) A H0 H locs [(g, .inr (6, [.ref mP, .int cash, .int cnt, .ref mS, .ref mK, .ref mL, .ref mT, .ref mZ, .ref mD, .ref mH, .ref mG, .ref mC, .int cuts, .int lin, .ref m1, .ref m2, .ref m3, .ref m4, .ref mB, .int siz, .int ctr, .ref mX, .ref mY])), (mX, .inl (cI, 8, .inl xx)), (mY, .inl (cI, 8, .inl zz))] s → lv_has ls 4 [(0, .ref g), (1, .int (nI (m0 + 1))), (2, .int (avF xx zz m0)), (3, .int (nI (m0 + 1)))] → W p l e R s m args below meth c H locs cells slots Q (F0 m 100 ls [])) :
    ∀ (n k : Nat) (ls : Array Slot) (H : Heap) (locs : List Loc), k + n = m0 → xW D (xT3 cI cZ cV) A H0 H locs [(g, .inr (6, [.ref mP, .int cash, .int cnt, .ref mS, .ref mK, .ref mL, .ref mT, .ref mZ, .ref mD, .ref mH, .ref mG, .ref mC, .int cuts, .int lin, .ref m1, .ref m2, .ref m3, .ref m4, .ref mB, .int siz, .int ctr, .ref mX, .ref mY])), (mX, .inl (cI, 8, .inl xx)), (mY, .inl (cI, 8, .inl zz))] s → lv_has ls 4 [(0, .ref g), (1, .int (nI (m0 + 1))), (2, .int (avF xx zz k)), (3, .int (nI (k + 1)))] → W p l e R s m args below meth c H locs cells slots Q (F0 m 71 ls []) := by
  obtain ⟨hx, hb, hml, hown, hts⟩ := id S
  subst hR
  obtain ⟨rfl, rfl⟩ := hC
  intro n
  induction n with
  | zero =>
    intro k ls H locs hk hw hl
    obtain rfl : m0 = k := by omega
    refine lv_iload_n hx hb dMO_atNothing_71 rfl (lv_at hl 3 rfl) ?_
    refine lv_iload_n hx hb dMO_atNothing_72 rfl (lv_at hl 1 rfl) ?_
    refine lv_icmp_ge (tgt := 100) hx hb dMO_atNothing_73 (by decide) (fun h73 => ?_) (fun h73 => absurd (nI_le (Nat.le_refl _) (by omega)) h73)
    exact kk ls H locs hw (lv_sub hl [0, 1, 2, 3] rfl)
  | succ n ih =>
    intro k ls H locs hk hw hl
    have hkN : k < m0 := by omega
    refine lv_iload_n hx hb dMO_atNothing_71 rfl (lv_at hl 3 rfl) ?_
    refine lv_iload_n hx hb dMO_atNothing_72 rfl (lv_at hl 1 rfl) ?_
    refine lv_icmp_ge (tgt := 100) hx hb dMO_atNothing_73 (by decide) (fun h73 => absurd h73 (nI_ge (by omega) (by omega))) (fun h73 => ?_)
    refine lv_aload_n hx hb dMO_atNothing_76 rfl (lv_at hl 0 rfl) ?_
    refine x_get S hw (C := RMO) (T := TMO) (N := 23) inMO 0 rfl rfl 22 (by decide) xh_2_167 (v := .ref mY) rfl dMO_atNothing_77 ?_
    refine lv_iload_n hx hb dMO_atNothing_80 rfl (lv_at hl 3 rfl) ?_
    refine x_iald S hw 2 0 rfl rfl (j := (k + 1)) (vp_in_nI (by omega) (by omega)) (nI_clamp (by omega)) dMO_atNothing_81 ?_
    refine lv_aload_n hx hb dMO_atNothing_82 rfl (lv_at hl 0 rfl) ?_
    refine x_get S hw (C := RMO) (T := TMO) (N := 23) inMO 0 rfl rfl 21 (by decide) xh_2_166 (v := .ref mX) rfl dMO_atNothing_83 ?_
    refine lv_iload_n hx hb dMO_atNothing_86 rfl (lv_at hl 3 rfl) ?_
    refine x_iald S hw 1 0 rfl rfl (j := (k + 1)) (vp_in_nI (by omega) (by omega)) (nI_clamp (by omega)) dMO_atNothing_87 ?_
    refine lv_iload_n hx hb dMO_atNothing_88 rfl (lv_at hl 2 rfl) ?_
    refine x_calliD (ws' := [(g, .inr (6, [.ref mP, .int cash, .int cnt, .ref mS, .ref mK, .ref mL, .ref mT, .ref mZ, .ref mD, .ref mH, .ref mG, .ref mC, .int cuts, .int lin, .ref m1, .ref m2, .ref m3, .ref m4, .ref mB, .int siz, .int ctr, .ref mX, .ref mY])), (mX, .inl (cI, 8, .inl xx)), (mY, .inl (cI, 8, .inl zz))]) hw [] rfl rfl (x_runS (n := 2) (rest := [.int (zz (k + 1))]) (As := [.int (xx (k + 1)), .int (avF xx zz k)]) S hw (m_prod l D cI cZ cV (xx (k + 1)) (avF xx zz k) _) xh_2_230 xh_2_228 xh_2_229 xh_1_6 (by decide +kernel) ⟨by decide, by decide⟩ [] rfl rfl rfl hl.1 rfl (Nat.le_of_ble_eq_true rfl) dMO_atNothing_89 ⟨by decide, by decide⟩) rfl rfl (fun H locs hw => ?_)
    refine lv_ixor hx hb dMO_atNothing_92 ?_
    refine lv_istore_n (lv' := [(2, .int ((zz (k + 1)) ^^^ (fProd (xx (k + 1)) (avF xx zz k)))), (0, .ref g), (1, .int (nI (m0 + 1))), (3, .int (nI (k + 1)))]) hx hb dMO_atNothing_93 rfl hl (by decide) rfl (fun ls hl => ?_)
    refine lv_iinc (v := nI ((k + 1) + 1)) (lv' := [(3, .int (nI ((k + 1) + 1))), (2, .int ((zz (k + 1)) ^^^ (fProd (xx (k + 1)) (avF xx zz k)))), (0, .ref g), (1, .int (nI (m0 + 1)))]) hx hb dMO_atNothing_94 hl (k := 3) rfl ((nI_succ _).symm) (by decide) rfl (fun ls hl => ?_)
    refine lv_goto (tgt := 71) hx hb dMO_atNothing_97 (by decide) ?_
    have e0 : avF xx zz (k + 1) = (zz (k + 1)) ^^^ (fProd (xx (k + 1)) (avF xx zz k)) := by simp only [avF]
    refine ih (k + 1) ls H locs (by omega) ?_ ?_
    · exact hw
    · rw [e0]; exact lv_sub hl [2, 3, 1, 0] rfl

set_option maxHeartbeats 4000000 in
set_option maxRecDepth 100000 in
theorem m_an (l : Launch) (D : va_G) (cI cZ cV : ClassId) (g : Nat) (mP : Nat) (mS : Nat) (mK : Nat) (mL : Nat) (mT : Nat) (mZ : Nat) (mD : Nat) (mH : Nat) (mG : Nat) (mC : Nat) (m1 : Nat) (m2 : Nat) (m3 : Nat) (m4 : Nat) (mB : Nat) (mX : Nat) (mY : Nat) (cash : Int32) (cnt : Int32) (cuts : Int32) (lin : Int32) (siz : Int32) (ctr : Int32) (xx : Nat → Int32) (yy : Nat → Int32) (m0 : Nat) (hm : m0 < 8) (hA : ∀ k l, k + l = m0 → ∀ j, j < l → toN (aiF xx (aoF xx yy (m0 + 1) k) l j j ^^^ aiF xx (aoF xx yy (m0 + 1) k) l j l) < 256) (hB : ∀ l j, j < l → l ≤ m0 → 0 < toN (xx j ^^^ xx l) ∧ toN (xx j ^^^ xx l) < 16) : XI l yMO_atNothing cMO_atNothing 4 (some .int) D (xT3 cI cZ cV) 2 0 0 [.ref g, .int (nI (m0 + 1))] [(g, .inr (6, [.ref mP, .int cash, .int cnt, .ref mS, .ref mK, .ref mL, .ref mT, .ref mZ, .ref mD, .ref mH, .ref mG, .ref mC, .int cuts, .int lin, .ref m1, .ref m2, .ref m3, .ref m4, .ref mB, .int siz, .int ctr, .ref mX, .ref mY])), (mX, .inl (cI, 8, .inl xx)), (mY, .inl (cI, 8, .inl yy))] (fun r u => r = avF xx (aoF xx yy (m0 + 1) m0) m0 ∧ u = [(g, .inr (6, [.ref mP, .int cash, .int cnt, .ref mS, .ref mK, .ref mL, .ref mT, .ref mZ, .ref mD, .ref mH, .ref mG, .ref mC, .int cuts, .int lin, .ref m1, .ref m2, .ref m3, .ref m4, .ref mB, .int siz, .int ctr, .ref mX, .ref mY])), (mX, .inl (cI, 8, .inl xx)), (mY, .inl (cI, 8, .inl (aoF xx yy (m0 + 1) m0)))]) := by
  intro sz
  refine x_ofW (Qc := fun A => va_Qi _ (xB D A) A) sz (by decide) (Nat.le_of_ble_eq_true rfl) ?_
  intro p e s m args below meth c A ls S hr hlk hnm hw hl
  obtain ⟨hx, hb, hml, hown, hts⟩ := id S
  have hl : lv_has ls 4 [(0, .ref g), (1, .int (nI (m0 + 1)))] := hl
  refine lv_iload_n hx hb dMO_atNothing_0 rfl (lv_at hl 1 rfl) ?_
  refine lv_iconst (v := 1) hx hb dMO_atNothing_1 (by decide) ?_
  refine lv_isub hx hb dMO_atNothing_2 ?_
  refine x_topi (y := nI m0) (nI_pred m0) ?_
  refine lv_istore_n (lv' := [(2, .int (nI m0)), (0, .ref g), (1, .int (nI (m0 + 1)))]) hx hb dMO_atNothing_3 rfl hl (by decide) rfl (fun ls hl => ?_)
  refine ml_anO rfl ⟨rfl, rfl⟩ S g mP mS mK mL mT mZ mD mH mG mC m1 m2 m3 m4 mB mX mY cash cnt cuts lin siz ctr xx yy m0 hm hA hB (fun ls H locs hw hl => ?_) m0 0 ls _ _ (Nat.zero_add _) hw (lv_sub hl [1, 2, 0] rfl)
  refine lv_aload_n hx hb dMO_atNothing_62 rfl (lv_at hl 0 rfl) ?_
  refine x_get S hw (C := RMO) (T := TMO) (N := 23) inMO 0 rfl rfl 22 (by decide) xh_2_167 (v := .ref mY) rfl dMO_atNothing_63 ?_
  refine lv_iconst (v := 0) hx hb dMO_atNothing_66 (by decide) ?_
  refine x_iald S hw 2 0 rfl rfl (j := 0) (vp_in_nI (n := 0) (by decide) (by decide)) (nI_clamp (n := 0) (by decide)) dMO_atNothing_67 ?_
  refine lv_istore_n (lv' := [(2, .int ((aoF xx yy (m0 + 1) m0) 0)), (0, .ref g), (1, .int (nI (m0 + 1)))]) hx hb dMO_atNothing_68 rfl hl (by decide) rfl (fun ls hl => ?_)
  refine lv_iconst (v := 1) hx hb dMO_atNothing_69 (by decide) ?_
  refine lv_istore_n (lv' := [(3, .int 1), (2, .int ((aoF xx yy (m0 + 1) m0) 0)), (0, .ref g), (1, .int (nI (m0 + 1)))]) hx hb dMO_atNothing_70 rfl hl (by decide) rfl (fun ls hl => ?_)
  refine ml_anV rfl ⟨rfl, rfl⟩ S g mP mS mK mL mT mZ mD mH mG mC m1 m2 m3 m4 mB mX mY cash cnt cuts lin siz ctr xx (aoF xx yy (m0 + 1) m0) m0 hm (fun ls H locs hw hl => ?_) m0 0 ls _ _ (Nat.zero_add _) hw (lv_sub hl [2, 3, 1, 0] rfl)
  refine lv_iload_n hx hb dMO_atNothing_100 rfl (lv_at hl 2 rfl) ?_
  exact x_iret S hr hlk hw (by decide) (by decide) (⟨rfl, rfl⟩) dMO_atNothing_101

set_option maxHeartbeats 4000000 in
set_option maxRecDepth 100000 in
theorem ml_tgI {p : Program} {l : Launch} {e : Env} {s : State} {m : MethodId} {args : Array Value} {below : List Frame} {meth : Method} {c : Code} {Q : State → Prop} {D : va_G} {A : Nat → Prop} {cI cZ cV : ClassId} {H0 : Heap} {R : Room} {cells slots : Nat} (hR : R = (xR 3 0 0)) (hC : cells = 0 ∧ slots = 0) (S : CallFix p m c cMO_together 6 s args xAll "EscrowedVersionsModel") (g : Nat) (mP : Nat) (mS : Nat) (mK : Nat) (mL : Nat) (mT : Nat) (mZ : Nat) (mD : Nat) (mH : Nat) (mG : Nat) (mC : Nat) (m1 : Nat) (m2 : Nat) (m3 : Nat) (m4 : Nat) (mB : Nat) (mX : Nat) (mY : Nat) (cash : Int32) (cnt : Int32) (cuts : Int32) (lin : Int32) (siz : Int32) (ctr : Int32) (gg : Nat → Int32) (hh : Nat → Int32) (xx : Nat → Int32) (yy : Nat → Int32) (s9 : Int32) (kb : Int32) (k0 : Nat) (hk0 : k0 < 8)
    (kk : ∀ (ls : Array Slot) (H : Heap) (locs : List Loc), xW D (xT3 cI cZ cV) A H0 H locs [(g, .inr (6, [.ref mP, .int cash, .int cnt, .ref mS, .ref mK, .ref mL, .ref mT, .ref mZ, .ref mD, .ref mH, .ref mG, .ref mC, .int cuts, .int lin, .ref m1, .ref m2, .ref m3, .ref m4, .ref mB, .int siz, .int ctr, .ref mX, .ref mY])), (mG, .inl (cZ, 72, .inl gg)), (mH, .inl (cI, 72, .inl hh)), (mX, .inl (cI, 8, .inl ((bdF gg hh k0 kb xx yy 8).1))), (mY, .inl (cI, 8, .inl ((bdF gg hh k0 kb xx yy 8).2.1)))] s → lv_has ls 6 [(0, .ref g), (1, .int (nI k0)), (2, .int s9), (3, .int kb), (4, .int (nI (bdF gg hh k0 kb xx yy 8).2.2)), (5, .int (nI (8 + 1)))] → W p l e R s m args below meth c H locs cells slots Q (F0 m 78 ls [])) :
    ∀ (n k : Nat) (ls : Array Slot) (H : Heap) (locs : List Loc), k + n = 8 → xW D (xT3 cI cZ cV) A H0 H locs [(g, .inr (6, [.ref mP, .int cash, .int cnt, .ref mS, .ref mK, .ref mL, .ref mT, .ref mZ, .ref mD, .ref mH, .ref mG, .ref mC, .int cuts, .int lin, .ref m1, .ref m2, .ref m3, .ref m4, .ref mB, .int siz, .int ctr, .ref mX, .ref mY])), (mG, .inl (cZ, 72, .inl gg)), (mH, .inl (cI, 72, .inl hh)), (mX, .inl (cI, 8, .inl ((bdF gg hh k0 kb xx yy k).1))), (mY, .inl (cI, 8, .inl ((bdF gg hh k0 kb xx yy k).2.1)))] s → lv_has ls 6 [(0, .ref g), (1, .int (nI k0)), (2, .int s9), (3, .int kb), (4, .int (nI (bdF gg hh k0 kb xx yy k).2.2)), (5, .int (nI (k + 1)))] → W p l e R s m args below meth c H locs cells slots Q (F0 m 15 ls []) := by
  obtain ⟨hx, hb, hml, hown, hts⟩ := id S
  subst hR
  obtain ⟨rfl, rfl⟩ := hC
  intro n
  induction n with
  | zero =>
    intro k ls H locs hk hw hl
    obtain rfl : 8 = k := by omega
    refine lv_iload hx hb dMO_together_15 (lv_at hl 5 rfl) ?_
    refine lv_bipush (v := 9) hx hb dMO_together_17 (by decide) ?_
    refine lv_icmp_ge (tgt := 78) hx hb dMO_together_19 (by decide) (fun h19 => ?_) (fun h19 => absurd (by decide +kernel) h19)
    exact kk ls H locs hw (lv_sub hl [0, 1, 2, 3, 4, 5] rfl)
  | succ n ih =>
    intro k ls H locs hk hw hl
    have hkN : k < 8 := by omega
    refine lv_iload hx hb dMO_together_15 (lv_at hl 5 rfl) ?_
    refine lv_bipush (v := 9) hx hb dMO_together_17 (by decide) ?_
    refine lv_icmp_ge (tgt := 78) hx hb dMO_together_19 (by decide) (fun h19 => absurd h19 (nI_ge (b := 9) (by omega) (by decide))) (fun h19 => ?_)
    refine lv_aload_n hx hb dMO_together_22 rfl (lv_at hl 0 rfl) ?_
    refine x_get S hw (C := RMO) (T := TMO) (N := 23) inMO 0 rfl rfl 10 (by decide) xh_2_155 (v := .ref mG) rfl dMO_together_23 ?_
    refine lv_bipush (v := 9) hx hb dMO_together_26 (by decide) ?_
    refine lv_iload_n hx hb dMO_together_28 rfl (lv_at hl 1 rfl) ?_
    refine lv_imul hx hb dMO_together_29 ?_
    refine lv_iload hx hb dMO_together_30 (lv_at hl 5 rfl) ?_
    refine lv_iadd hx hb dMO_together_32 ?_
    refine x_topi (y := nI (9 * k0 + (k + 1))) (ix9 _ _) ?_
    refine x_zald S hw 1 1 rfl rfl (j := (9 * k0 + (k + 1))) (vp_in_nI (by omega) (by omega)) (nI_clamp (by omega)) dMO_together_33 ?_
    refine lv_if_eq (tgt := 72) hx hb dMO_together_34 (by decide) (fun h34 => ?_) (fun h34 => ?_)
    · skip
      refine lv_iinc (v := nI ((k + 1) + 1)) (lv' := [(5, .int (nI ((k + 1) + 1))), (0, .ref g), (1, .int (nI k0)), (2, .int s9), (3, .int kb), (4, .int (nI (bdF gg hh k0 kb xx yy k).2.2))]) hx hb dMO_together_72 hl (k := 5) rfl ((nI_succ _).symm) (by decide) rfl (fun ls hl => ?_)
      refine lv_goto (tgt := 15) hx hb dMO_together_75 (by decide) ?_
      have e0 : nI (bdF gg hh k0 kb xx yy (k + 1)).2.2 = nI (bdF gg hh k0 kb xx yy k).2.2 := by simp only [bdF, if_pos h34]
      have e1 : (bdF gg hh k0 kb xx yy (k + 1)).1 = (bdF gg hh k0 kb xx yy k).1 := by simp only [bdF, if_pos h34]
      have e2 : (bdF gg hh k0 kb xx yy (k + 1)).2.1 = (bdF gg hh k0 kb xx yy k).2.1 := by simp only [bdF, if_pos h34]
      refine ih (k + 1) ls H locs (by omega) ?_ ?_
      · rw [e1, e2]; exact hw
      · rw [e0]; exact lv_sub hl [1, 2, 3, 4, 5, 0] rfl
    refine lv_aload_n hx hb dMO_together_37 rfl (lv_at hl 0 rfl) ?_
    refine x_get S hw (C := RMO) (T := TMO) (N := 23) inMO 0 rfl rfl 21 (by decide) xh_2_166 (v := .ref mX) rfl dMO_together_38 ?_
    refine lv_iload hx hb dMO_together_41 (lv_at hl 4 rfl) ?_
    refine lv_iload hx hb dMO_together_43 (lv_at hl 5 rfl) ?_
    refine x_iast S hw 3 0 rfl rfl (j := (bdF gg hh k0 kb xx yy k).2.2) (vp_in_nI (Nat.lt_of_le_of_lt (bdF_le gg hh k0 kb xx yy k) (by omega)) (by decide)) (nI_clamp (Nat.lt_of_le_of_lt (bdF_le gg hh k0 kb xx yy k) (by omega))) (ws' := [(g, .inr (6, [.ref mP, .int cash, .int cnt, .ref mS, .ref mK, .ref mL, .ref mT, .ref mZ, .ref mD, .ref mH, .ref mG, .ref mC, .int cuts, .int lin, .ref m1, .ref m2, .ref m3, .ref m4, .ref mB, .int siz, .int ctr, .ref mX, .ref mY])), (mG, .inl (cZ, 72, .inl gg)), (mH, .inl (cI, 72, .inl hh)), (mX, .inl (cI, 8, .inl (upd ((bdF gg hh k0 kb xx yy k).1) ((bdF gg hh k0 kb xx yy k).2.2) (nI (k + 1))))), (mY, .inl (cI, 8, .inl ((bdF gg hh k0 kb xx yy k).2.1)))]) rfl dMO_together_45 (fun H locs hw => ?_)
    refine lv_aload_n hx hb dMO_together_46 rfl (lv_at hl 0 rfl) ?_
    refine x_get S hw (C := RMO) (T := TMO) (N := 23) inMO 0 rfl rfl 22 (by decide) xh_2_167 (v := .ref mY) rfl dMO_together_47 ?_
    refine lv_iload hx hb dMO_together_50 (lv_at hl 4 rfl) ?_
    refine lv_aload_n hx hb dMO_together_52 rfl (lv_at hl 0 rfl) ?_
    refine x_get S hw (C := RMO) (T := TMO) (N := 23) inMO 0 rfl rfl 9 (by decide) xh_2_154 (v := .ref mH) rfl dMO_together_53 ?_
    refine lv_bipush (v := 9) hx hb dMO_together_56 (by decide) ?_
    refine lv_iload_n hx hb dMO_together_58 rfl (lv_at hl 1 rfl) ?_
    refine lv_imul hx hb dMO_together_59 ?_
    refine lv_iload hx hb dMO_together_60 (lv_at hl 5 rfl) ?_
    refine lv_iadd hx hb dMO_together_62 ?_
    refine x_topi (y := nI (9 * k0 + (k + 1))) (ix9 _ _) ?_
    refine x_iald S hw 2 0 rfl rfl (j := (9 * k0 + (k + 1))) (vp_in_nI (by omega) (by omega)) (nI_clamp (by omega)) dMO_together_63 ?_
    refine lv_iload_n hx hb dMO_together_64 rfl (lv_at hl 3 rfl) ?_
    refine x_calliD (ws' := [(g, .inr (6, [.ref mP, .int cash, .int cnt, .ref mS, .ref mK, .ref mL, .ref mT, .ref mZ, .ref mD, .ref mH, .ref mG, .ref mC, .int cuts, .int lin, .ref m1, .ref m2, .ref m3, .ref m4, .ref mB, .int siz, .int ctr, .ref mX, .ref mY])), (mG, .inl (cZ, 72, .inl gg)), (mH, .inl (cI, 72, .inl hh)), (mX, .inl (cI, 8, .inl (upd ((bdF gg hh k0 kb xx yy k).1) ((bdF gg hh k0 kb xx yy k).2.2) (nI (k + 1))))), (mY, .inl (cI, 8, .inl ((bdF gg hh k0 kb xx yy k).2.1)))]) hw [] rfl rfl (x_runS (n := 2) (rest := [.int (nI (bdF gg hh k0 kb xx yy k).2.2), .ref mY]) (As := [.int (hh (9 * k0 + (k + 1))), .int kb]) S hw (m_byteOf l D cI cZ cV (hh (9 * k0 + (k + 1))) kb _) xh_3_30 xh_3_28 xh_3_29 xh_1_6 (by decide +kernel) ⟨by decide, by decide⟩ [] rfl rfl rfl hl.1 rfl (Nat.le_of_ble_eq_true rfl) dMO_together_65 ⟨by decide, by decide⟩) rfl rfl (fun H locs hw => ?_)
    refine x_iast S hw 4 0 rfl rfl (j := (bdF gg hh k0 kb xx yy k).2.2) (vp_in_nI (Nat.lt_of_le_of_lt (bdF_le gg hh k0 kb xx yy k) (by omega)) (by decide)) (nI_clamp (Nat.lt_of_le_of_lt (bdF_le gg hh k0 kb xx yy k) (by omega))) (ws' := [(g, .inr (6, [.ref mP, .int cash, .int cnt, .ref mS, .ref mK, .ref mL, .ref mT, .ref mZ, .ref mD, .ref mH, .ref mG, .ref mC, .int cuts, .int lin, .ref m1, .ref m2, .ref m3, .ref m4, .ref mB, .int siz, .int ctr, .ref mX, .ref mY])), (mG, .inl (cZ, 72, .inl gg)), (mH, .inl (cI, 72, .inl hh)), (mX, .inl (cI, 8, .inl (upd ((bdF gg hh k0 kb xx yy k).1) ((bdF gg hh k0 kb xx yy k).2.2) (nI (k + 1))))), (mY, .inl (cI, 8, .inl (upd ((bdF gg hh k0 kb xx yy k).2.1) ((bdF gg hh k0 kb xx yy k).2.2) (fByt (hh (9 * k0 + (k + 1))) kb))))]) rfl dMO_together_68 (fun H locs hw => ?_)
    refine lv_iinc (v := nI ((bdF gg hh k0 kb xx yy k).2.2 + 1)) (lv' := [(4, .int (nI ((bdF gg hh k0 kb xx yy k).2.2 + 1))), (0, .ref g), (1, .int (nI k0)), (2, .int s9), (3, .int kb), (5, .int (nI (k + 1)))]) hx hb dMO_together_69 hl (k := 4) rfl ((nI_succ _).symm) (by decide) rfl (fun ls hl => ?_)
    refine lv_iinc (v := nI ((k + 1) + 1)) (lv' := [(5, .int (nI ((k + 1) + 1))), (4, .int (nI ((bdF gg hh k0 kb xx yy k).2.2 + 1))), (0, .ref g), (1, .int (nI k0)), (2, .int s9), (3, .int kb)]) hx hb dMO_together_72 hl (k := 5) rfl ((nI_succ _).symm) (by decide) rfl (fun ls hl => ?_)
    refine lv_goto (tgt := 15) hx hb dMO_together_75 (by decide) ?_
    have e0 : nI (bdF gg hh k0 kb xx yy (k + 1)).2.2 = nI ((bdF gg hh k0 kb xx yy k).2.2 + 1) := by simp only [bdF, if_neg h34]
    have e1 : (bdF gg hh k0 kb xx yy (k + 1)).1 = upd ((bdF gg hh k0 kb xx yy k).1) ((bdF gg hh k0 kb xx yy k).2.2) (nI (k + 1)) := by simp only [bdF, if_neg h34]
    have e2 : (bdF gg hh k0 kb xx yy (k + 1)).2.1 = upd ((bdF gg hh k0 kb xx yy k).2.1) ((bdF gg hh k0 kb xx yy k).2.2) (fByt (hh (9 * k0 + (k + 1))) kb) := by simp only [bdF, if_neg h34]
    refine ih (k + 1) ls H locs (by omega) ?_ ?_
    · rw [e1, e2]; exact hw
    · rw [e0]; exact lv_sub hl [2, 3, 4, 5, 1, 0] rfl

set_option maxHeartbeats 4000000 in
set_option maxRecDepth 100000 in
theorem ml_tg {p : Program} {l : Launch} {e : Env} {s : State} {m : MethodId} {args : Array Value} {below : List Frame} {meth : Method} {c : Code} {Q : State → Prop} {D : va_G} {A : Nat → Prop} {cI cZ cV : ClassId} {H0 : Heap} {R : Room} {cells slots : Nat} (hR : R = (xR 3 0 0)) (hC : cells = 0 ∧ slots = 0) (S : CallFix p m c cMO_together 6 s args xAll "EscrowedVersionsModel") (g : Nat) (mP : Nat) (mS : Nat) (mK : Nat) (mL : Nat) (mT : Nat) (mZ : Nat) (mD : Nat) (mH : Nat) (mG : Nat) (mC : Nat) (m1 : Nat) (m2 : Nat) (m3 : Nat) (m4 : Nat) (mB : Nat) (mX : Nat) (mY : Nat) (cash : Int32) (cnt : Int32) (cuts : Int32) (lin : Int32) (siz : Int32) (ctr : Int32) (gg : Nat → Int32) (hh : Nat → Int32) (xx : Nat → Int32) (yy : Nat → Int32) (k0 : Nat) (m0 : Nat) (hk0 : k0 < 8) (hm : m0 < 8) (hc9 : ∀ (kb : Int32) (x9 y9 : Nat → Int32), (bdF gg hh k0 kb x9 y9 8).2.2 = m0 + 1) (hA : ∀ (kb : Int32) (x9 y9 : Nat → Int32), ∀ k l, k + l = m0 → ∀ j, j < l → toN (aiF (bdF gg hh k0 kb x9 y9 8).1 (aoF (bdF gg hh k0 kb x9 y9 8).1 (bdF gg hh k0 kb x9 y9 8).2.1 (m0 + 1) k) l j j ^^^ aiF (bdF gg hh k0 kb x9 y9 8).1 (aoF (bdF gg hh k0 kb x9 y9 8).1 (bdF gg hh k0 kb x9 y9 8).2.1 (m0 + 1) k) l j l) < 256) (hB : ∀ (kb : Int32) (x9 y9 : Nat → Int32), ∀ l j, j < l → l ≤ m0 → 0 < toN ((bdF gg hh k0 kb x9 y9 8).1 j ^^^ (bdF gg hh k0 kb x9 y9 8).1 l) ∧ toN ((bdF gg hh k0 kb x9 y9 8).1 j ^^^ (bdF gg hh k0 kb x9 y9 8).1 l) < 16)
    (kk : ∀ (ls : Array Slot) (H : Heap) (locs : List Loc), xW D (xT3 cI cZ cV) A H0 H locs [(g, .inr (6, [.ref mP, .int cash, .int cnt, .ref mS, .ref mK, .ref mL, .ref mT, .ref mZ, .ref mD, .ref mH, .ref mG, .ref mC, .int cuts, .int lin, .ref m1, .ref m2, .ref m3, .ref m4, .ref mB, .int siz, .int ctr, .ref mX, .ref mY])), (mG, .inl (cZ, 72, .inl gg)), (mH, .inl (cI, 72, .inl hh)), (mX, .inl (cI, 8, .inl ((tgF gg hh k0 m0 xx yy 4).1))), (mY, .inl (cI, 8, .inl ((tgF gg hh k0 m0 xx yy 4).2.1)))] s → lv_has ls 6 [(0, .ref g), (1, .int (nI k0)), (2, .int ((tgF gg hh k0 m0 xx yy 4).2.2)), (3, .int (nI 4))] → W p l e R s m args below meth c H locs cells slots Q (F0 m 96 ls [])) :
    ∀ (n k : Nat) (ls : Array Slot) (H : Heap) (locs : List Loc), k + n = 4 → xW D (xT3 cI cZ cV) A H0 H locs [(g, .inr (6, [.ref mP, .int cash, .int cnt, .ref mS, .ref mK, .ref mL, .ref mT, .ref mZ, .ref mD, .ref mH, .ref mG, .ref mC, .int cuts, .int lin, .ref m1, .ref m2, .ref m3, .ref m4, .ref mB, .int siz, .int ctr, .ref mX, .ref mY])), (mG, .inl (cZ, 72, .inl gg)), (mH, .inl (cI, 72, .inl hh)), (mX, .inl (cI, 8, .inl ((tgF gg hh k0 m0 xx yy k).1))), (mY, .inl (cI, 8, .inl ((tgF gg hh k0 m0 xx yy k).2.1)))] s → lv_has ls 6 [(0, .ref g), (1, .int (nI k0)), (2, .int ((tgF gg hh k0 m0 xx yy k).2.2)), (3, .int (nI k))] → W p l e R s m args below meth c H locs cells slots Q (F0 m 4 ls []) := by
  obtain ⟨hx, hb, hml, hown, hts⟩ := id S
  subst hR
  obtain ⟨rfl, rfl⟩ := hC
  intro n
  induction n with
  | zero =>
    intro k ls H locs hk hw hl
    obtain rfl : 4 = k := by omega
    refine lv_iload_n hx hb dMO_together_4 rfl (lv_at hl 3 rfl) ?_
    refine lv_iconst (v := 4) hx hb dMO_together_5 (by decide) ?_
    refine lv_icmp_ge (tgt := 96) hx hb dMO_together_6 (by decide) (fun h6 => ?_) (fun h6 => absurd (by decide +kernel) h6)
    exact kk ls H locs hw (lv_sub hl [0, 1, 2, 3] rfl)
  | succ n ih =>
    intro k ls H locs hk hw hl
    have hkN : k < 4 := by omega
    refine lv_iload_n hx hb dMO_together_4 rfl (lv_at hl 3 rfl) ?_
    refine lv_iconst (v := 4) hx hb dMO_together_5 (by decide) ?_
    refine lv_icmp_ge (tgt := 96) hx hb dMO_together_6 (by decide) (fun h6 => absurd h6 (nI_ge (b := 4) hkN (by decide))) (fun h6 => ?_)
    refine lv_iconst (v := 0) hx hb dMO_together_9 (by decide) ?_
    refine lv_istore (lv' := [(4, .int 0), (0, .ref g), (1, .int (nI k0)), (2, .int ((tgF gg hh k0 m0 xx yy k).2.2)), (3, .int (nI k))]) hx hb dMO_together_10 hl (by decide) rfl (fun ls hl => ?_)
    refine lv_iconst (v := 1) hx hb dMO_together_12 (by decide) ?_
    refine lv_istore (lv' := [(5, .int 1), (4, .int 0), (0, .ref g), (1, .int (nI k0)), (2, .int ((tgF gg hh k0 m0 xx yy k).2.2)), (3, .int (nI k))]) hx hb dMO_together_13 hl (by decide) rfl (fun ls hl => ?_)
    refine ml_tgI rfl ⟨rfl, rfl⟩ S g mP mS mK mL mT mZ mD mH mG mC m1 m2 m3 m4 mB mX mY cash cnt cuts lin siz ctr gg hh ((tgF gg hh k0 m0 xx yy k).1) ((tgF gg hh k0 m0 xx yy k).2.1) ((tgF gg hh k0 m0 xx yy k).2.2) (nI k) k0 hk0 (fun ls H locs hw hl => ?_) 8 0 ls _ _ (Nat.zero_add _) hw (lv_sub hl [2, 3, 4, 5, 1, 0] rfl)
    refine lv_iload_n hx hb dMO_together_78 rfl (lv_at hl 2 rfl) ?_
    refine lv_bipush (v := 8) hx hb dMO_together_79 (by decide) ?_
    refine lv_ishl hx hb dMO_together_81 ?_
    refine lv_aload_n hx hb dMO_together_82 rfl (lv_at hl 0 rfl) ?_
    refine lv_iload hx hb dMO_together_83 (lv_at hl 4 rfl) ?_
    refine x_topi (y := nI (m0 + 1)) (by rw [hc9]) ?_
    refine x_calliD (ws' := [(g, .inr (6, [.ref mP, .int cash, .int cnt, .ref mS, .ref mK, .ref mL, .ref mT, .ref mZ, .ref mD, .ref mH, .ref mG, .ref mC, .int cuts, .int lin, .ref m1, .ref m2, .ref m3, .ref m4, .ref mB, .int siz, .int ctr, .ref mX, .ref mY])), (mG, .inl (cZ, 72, .inl gg)), (mH, .inl (cI, 72, .inl hh)), (mX, .inl (cI, 8, .inl ((bdF gg hh k0 (nI k) ((tgF gg hh k0 m0 xx yy k).1) ((tgF gg hh k0 m0 xx yy k).2.1) 8).1))), (mY, .inl (cI, 8, .inl (aoF ((bdF gg hh k0 (nI k) ((tgF gg hh k0 m0 xx yy k).1) ((tgF gg hh k0 m0 xx yy k).2.1) 8).1) ((bdF gg hh k0 (nI k) ((tgF gg hh k0 m0 xx yy k).1) ((tgF gg hh k0 m0 xx yy k).2.1) 8).2.1) (m0 + 1) m0)))]) hw [0, 3, 4] rfl rfl (x_runV (n := 1) (rest := [.int (((tgF gg hh k0 m0 xx yy k).2.2) <<< ((8 : Int32) &&& 31))]) (As := [.int (nI (m0 + 1))]) S hw (m_an l D cI cZ cV g mP mS mK mL mT mZ mD mH mG mC m1 m2 m3 m4 mB mX mY cash cnt cuts lin siz ctr ((bdF gg hh k0 (nI k) ((tgF gg hh k0 m0 xx yy k).1) ((tgF gg hh k0 m0 xx yy k).2.1) 8).1) ((bdF gg hh k0 (nI k) ((tgF gg hh k0 m0 xx yy k).1) ((tgF gg hh k0 m0 xx yy k).2.1) 8).2.1) m0 hm (hA (nI k) _ _) (hB (nI k) _ _) _) xh_3_54 xh_3_51 xh_3_53 xsel_MO_atNothing xh_1_6 (by decide +kernel) ⟨by decide, by decide⟩ [0, 3, 4] rfl rfl (ci := 6) (q0 := 0) rfl rfl rfl hl.1 rfl (Nat.le_of_ble_eq_true rfl) dMO_together_85 ⟨by decide, by decide⟩) rfl rfl (fun H locs hw => ?_)
    refine lv_ior hx hb dMO_together_88 ?_
    refine lv_istore_n (lv' := [(2, .int ((((tgF gg hh k0 m0 xx yy k).2.2) <<< ((8 : Int32) &&& 31)) ||| (avF ((bdF gg hh k0 (nI k) ((tgF gg hh k0 m0 xx yy k).1) ((tgF gg hh k0 m0 xx yy k).2.1) 8).1) (aoF ((bdF gg hh k0 (nI k) ((tgF gg hh k0 m0 xx yy k).1) ((tgF gg hh k0 m0 xx yy k).2.1) 8).1) ((bdF gg hh k0 (nI k) ((tgF gg hh k0 m0 xx yy k).1) ((tgF gg hh k0 m0 xx yy k).2.1) 8).2.1) (m0 + 1) m0) m0))), (0, .ref g), (1, .int (nI k0)), (3, .int (nI k)), (4, .int (nI (bdF gg hh k0 (nI k) ((tgF gg hh k0 m0 xx yy k).1) ((tgF gg hh k0 m0 xx yy k).2.1) 8).2.2)), (5, .int (nI (8 + 1)))]) hx hb dMO_together_89 rfl hl (by decide) rfl (fun ls hl => ?_)
    refine lv_iinc (v := nI (k + 1)) (lv' := [(3, .int (nI (k + 1))), (2, .int ((((tgF gg hh k0 m0 xx yy k).2.2) <<< ((8 : Int32) &&& 31)) ||| (avF ((bdF gg hh k0 (nI k) ((tgF gg hh k0 m0 xx yy k).1) ((tgF gg hh k0 m0 xx yy k).2.1) 8).1) (aoF ((bdF gg hh k0 (nI k) ((tgF gg hh k0 m0 xx yy k).1) ((tgF gg hh k0 m0 xx yy k).2.1) 8).1) ((bdF gg hh k0 (nI k) ((tgF gg hh k0 m0 xx yy k).1) ((tgF gg hh k0 m0 xx yy k).2.1) 8).2.1) (m0 + 1) m0) m0))), (0, .ref g), (1, .int (nI k0)), (4, .int (nI (bdF gg hh k0 (nI k) ((tgF gg hh k0 m0 xx yy k).1) ((tgF gg hh k0 m0 xx yy k).2.1) 8).2.2)), (5, .int (nI (8 + 1)))]) hx hb dMO_together_90 hl (k := 3) rfl ((nI_succ _).symm) (by decide) rfl (fun ls hl => ?_)
    refine lv_goto (tgt := 4) hx hb dMO_together_93 (by decide) ?_
    have e0 : (tgF gg hh k0 m0 xx yy (k + 1)).2.2 = (((tgF gg hh k0 m0 xx yy k).2.2) <<< ((8 : Int32) &&& 31)) ||| (avF ((bdF gg hh k0 (nI k) ((tgF gg hh k0 m0 xx yy k).1) ((tgF gg hh k0 m0 xx yy k).2.1) 8).1) (aoF ((bdF gg hh k0 (nI k) ((tgF gg hh k0 m0 xx yy k).1) ((tgF gg hh k0 m0 xx yy k).2.1) 8).1) ((bdF gg hh k0 (nI k) ((tgF gg hh k0 m0 xx yy k).1) ((tgF gg hh k0 m0 xx yy k).2.1) 8).2.1) (m0 + 1) m0) m0) := by simp only [tgF]
    have e1 : (tgF gg hh k0 m0 xx yy (k + 1)).1 = (bdF gg hh k0 (nI k) ((tgF gg hh k0 m0 xx yy k).1) ((tgF gg hh k0 m0 xx yy k).2.1) 8).1 := by simp only [tgF]
    have e2 : (tgF gg hh k0 m0 xx yy (k + 1)).2.1 = aoF ((bdF gg hh k0 (nI k) ((tgF gg hh k0 m0 xx yy k).1) ((tgF gg hh k0 m0 xx yy k).2.1) 8).1) ((bdF gg hh k0 (nI k) ((tgF gg hh k0 m0 xx yy k).1) ((tgF gg hh k0 m0 xx yy k).2.1) 8).2.1) (m0 + 1) m0 := by simp only [tgF]
    refine ih (k + 1) ls H locs (by omega) ?_ ?_
    · rw [e1, e2]; exact hw
    · rw [e0]; exact lv_sub hl [2, 3, 1, 0] rfl

set_option maxHeartbeats 4000000 in
set_option maxRecDepth 100000 in
theorem m_tg (l : Launch) (D : va_G) (cI cZ cV : ClassId) (g : Nat) (mP : Nat) (mS : Nat) (mK : Nat) (mL : Nat) (mT : Nat) (mZ : Nat) (mD : Nat) (mH : Nat) (mG : Nat) (mC : Nat) (m1 : Nat) (m2 : Nat) (m3 : Nat) (m4 : Nat) (mB : Nat) (mX : Nat) (mY : Nat) (cash : Int32) (cnt : Int32) (cuts : Int32) (lin : Int32) (siz : Int32) (ctr : Int32) (gg : Nat → Int32) (hh : Nat → Int32) (xx : Nat → Int32) (yy : Nat → Int32) (k0 : Nat) (m0 : Nat) (hk0 : k0 < 8) (hm : m0 < 8) (hc9 : ∀ (kb : Int32) (x9 y9 : Nat → Int32), (bdF gg hh k0 kb x9 y9 8).2.2 = m0 + 1) (hA : ∀ (kb : Int32) (x9 y9 : Nat → Int32), ∀ k l, k + l = m0 → ∀ j, j < l → toN (aiF (bdF gg hh k0 kb x9 y9 8).1 (aoF (bdF gg hh k0 kb x9 y9 8).1 (bdF gg hh k0 kb x9 y9 8).2.1 (m0 + 1) k) l j j ^^^ aiF (bdF gg hh k0 kb x9 y9 8).1 (aoF (bdF gg hh k0 kb x9 y9 8).1 (bdF gg hh k0 kb x9 y9 8).2.1 (m0 + 1) k) l j l) < 256) (hB : ∀ (kb : Int32) (x9 y9 : Nat → Int32), ∀ l j, j < l → l ≤ m0 → 0 < toN ((bdF gg hh k0 kb x9 y9 8).1 j ^^^ (bdF gg hh k0 kb x9 y9 8).1 l) ∧ toN ((bdF gg hh k0 kb x9 y9 8).1 j ^^^ (bdF gg hh k0 kb x9 y9 8).1 l) < 16) : XI l yMO_together cMO_together 6 (some .int) D (xT3 cI cZ cV) 3 0 0 [.ref g, .int (nI k0)] [(g, .inr (6, [.ref mP, .int cash, .int cnt, .ref mS, .ref mK, .ref mL, .ref mT, .ref mZ, .ref mD, .ref mH, .ref mG, .ref mC, .int cuts, .int lin, .ref m1, .ref m2, .ref m3, .ref m4, .ref mB, .int siz, .int ctr, .ref mX, .ref mY])), (mG, .inl (cZ, 72, .inl gg)), (mH, .inl (cI, 72, .inl hh)), (mX, .inl (cI, 8, .inl xx)), (mY, .inl (cI, 8, .inl yy))] (fun r u => r = (tgF gg hh k0 m0 xx yy 4).2.2 ∧ u = [(g, .inr (6, [.ref mP, .int cash, .int cnt, .ref mS, .ref mK, .ref mL, .ref mT, .ref mZ, .ref mD, .ref mH, .ref mG, .ref mC, .int cuts, .int lin, .ref m1, .ref m2, .ref m3, .ref m4, .ref mB, .int siz, .int ctr, .ref mX, .ref mY])), (mG, .inl (cZ, 72, .inl gg)), (mH, .inl (cI, 72, .inl hh)), (mX, .inl (cI, 8, .inl ((tgF gg hh k0 m0 xx yy 4).1))), (mY, .inl (cI, 8, .inl ((tgF gg hh k0 m0 xx yy 4).2.1)))]) := by
  intro sz
  refine x_ofW (Qc := fun A => va_Qi _ (xB D A) A) sz (by decide) (Nat.le_of_ble_eq_true rfl) ?_
  intro p e s m args below meth c A ls S hr hlk hnm hw hl
  obtain ⟨hx, hb, hml, hown, hts⟩ := id S
  have hl : lv_has ls 6 [(0, .ref g), (1, .int (nI k0))] := hl
  refine lv_iconst (v := 0) hx hb dMO_together_0 (by decide) ?_
  refine lv_istore_n (lv' := [(2, .int 0), (0, .ref g), (1, .int (nI k0))]) hx hb dMO_together_1 rfl hl (by decide) rfl (fun ls hl => ?_)
  refine lv_iconst (v := 0) hx hb dMO_together_2 (by decide) ?_
  refine lv_istore_n (lv' := [(3, .int 0), (2, .int 0), (0, .ref g), (1, .int (nI k0))]) hx hb dMO_together_3 rfl hl (by decide) rfl (fun ls hl => ?_)
  refine ml_tg rfl ⟨rfl, rfl⟩ S g mP mS mK mL mT mZ mD mH mG mC m1 m2 m3 m4 mB mX mY cash cnt cuts lin siz ctr gg hh xx yy k0 m0 hk0 hm hc9 hA hB (fun ls H locs hw hl => ?_) 4 0 ls _ _ (Nat.zero_add _) hw (lv_sub hl [2, 3, 1, 0] rfl)
  refine lv_iload_n hx hb dMO_together_96 rfl (lv_at hl 2 rfl) ?_
  exact x_iret S hr hlk hw (by decide) (by decide) (⟨rfl, rfl⟩) dMO_together_97
