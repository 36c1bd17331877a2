set_option maxHeartbeats 4000000 in
set_option maxRecDepth 100000 in
theorem k_find_no (l : Launch) (D : va_G) (cI cZ cV : ClassId) (h : Nat) (qc : Nat) (qj : Nat) (qe : Nat) (qs : Nat) (qm : Nat) (mc : Int32) (ctr : Int32) (act : Option Nat) (v : Int32) (hv : v < 0 ∨ mc ≤ v) : XQ l yEV_find cEV_find 2 (some (.object "EscrowedVersions$Version")) D (xT3 cI cZ cV) 0 0 0 [.ref h, .int v] [(h, .inr (5, [.ref qc, .ref qj, .ref qe, .ref qs, .ref qm, .int mc, va_rf act, .int ctr]))] (fun r u => r = none ∧ u = [(h, .inr (5, [.ref qc, .ref qj, .ref qe, .ref qs, .ref qm, .int mc, va_rf act, .int ctr]))]) := by
  intro sz
  refine x_ofW (Qc := fun A => va_Qq _ (xB D A) A) sz (by decide) (Nat.le_of_ble_eq_true rfl) ?_
  intro p e s m args below meth c A ls S hr hlk hnm hw hl
  obtain ⟨hx, hb, hml, hown, hts⟩ := id S
  have hl : lv_has ls 2 [(0, .ref h), (1, .int v)] := hl
  refine lv_iload_n hx hb dEV_find_0 rfl (lv_at hl 1 rfl) ?_
  refine lv_if_lt (tgt := 12) hx hb dEV_find_1 (by decide) (fun h1 => ?_) (fun h1 => ?_)
  · skip
    refine lv_null hx hb dEV_find_12 ?_
    refine lv_goto (tgt := 22) hx hb dEV_find_13 (by decide) ?_
    exact x_aret S hr (Or.inl ⟨_, rfl⟩) hlk hw (by decide) (by decide) rfl (⟨rfl, rfl⟩) dEV_find_22
  refine lv_iload_n hx hb dEV_find_4 rfl (lv_at hl 1 rfl) ?_
  refine lv_aload_n hx hb dEV_find_5 rfl (lv_at hl 0 rfl) ?_
  refine x_get S hw (C := REV) (T := TEV) (N := 8) inEV 0 rfl rfl 5 (by decide) xh_1_104 (v := .int mc) rfl dEV_find_6 ?_
  refine lv_icmp_lt (tgt := 16) hx hb dEV_find_9 (by decide) (fun h9 => ?_) (fun h9 => ?_)
  · skip
    exact False.elim (by rcases hv with h | h; exact h1 h; exact Int32.not_lt.mpr h h9)
  refine lv_null hx hb dEV_find_12 ?_
  refine lv_goto (tgt := 22) hx hb dEV_find_13 (by decide) ?_
  exact x_aret S hr (Or.inl ⟨_, rfl⟩) hlk hw (by decide) (by decide) rfl (⟨rfl, rfl⟩) dEV_find_22

set_option maxHeartbeats 4000000 in
set_option maxRecDepth 100000 in
theorem k_find_ok (l : Launch) (D : va_G) (cI cZ cV : ClassId) (h : Nat) (qc : Nat) (qj : Nat) (qe : Nat) (qs : Nat) (qm : Nat) (ctr : Int32) (act : Option Nat) (n1 : Nat) (mk : Nat → Option Nat) (k0 : Nat) (v0 : Nat) (hm : mk k0 = some v0) (hk : k0 < n1 ∧ n1 ≤ 8) : XQ l yEV_find cEV_find 2 (some (.object "EscrowedVersions$Version")) D (xT3 cI cZ cV) 0 0 0 [.ref h, .int (nI k0)] [(h, .inr (5, [.ref qc, .ref qj, .ref qe, .ref qs, .ref qm, .int (nI n1), va_rf act, .int ctr])), (qm, .inl (cV, 8, .inr (.inr (.inr (.inr mk)))))] (fun r u => r = (some v0) ∧ u = [(h, .inr (5, [.ref qc, .ref qj, .ref qe, .ref qs, .ref qm, .int (nI n1), va_rf act, .int ctr])), (qm, .inl (cV, 8, .inr (.inr (.inr (.inr mk)))))]) := by
  intro sz
  refine x_ofW (Qc := fun A => va_Qq _ (xB D A) A) sz (by decide) (Nat.le_of_ble_eq_true rfl) ?_
  intro p e s m args below meth c A ls S hr hlk hnm hw hl
  obtain ⟨hx, hb, hml, hown, hts⟩ := id S
  have hl : lv_has ls 2 [(0, .ref h), (1, .int (nI k0))] := hl
  refine lv_iload_n hx hb dEV_find_0 rfl (lv_at hl 1 rfl) ?_
  refine lv_if_lt (tgt := 12) hx hb dEV_find_1 (by decide) (fun h1 => absurd h1 (nI_pos (by omega))) (fun h1 => ?_)
  refine lv_iload_n hx hb dEV_find_4 rfl (lv_at hl 1 rfl) ?_
  refine lv_aload_n hx hb dEV_find_5 rfl (lv_at hl 0 rfl) ?_
  refine x_get S hw (C := REV) (T := TEV) (N := 8) inEV 0 rfl rfl 5 (by decide) xh_1_104 (v := .int (nI n1)) rfl dEV_find_6 ?_
  refine lv_icmp_lt (tgt := 16) hx hb dEV_find_9 (by decide) (fun h9 => ?_) (fun h9 => absurd (nI_lt (by omega) (by omega)) h9)
  refine lv_aload_n hx hb dEV_find_16 rfl (lv_at hl 0 rfl) ?_
  refine x_get S hw (C := REV) (T := TEV) (N := 8) inEV 0 rfl rfl 4 (by decide) xh_1_103 (v := .ref qm) rfl dEV_find_17 ?_
  refine lv_iload_n hx hb dEV_find_20 rfl (lv_at hl 1 rfl) ?_
  refine x_aald S hw 1 2 rfl rfl (j := k0) (vp_in_nI (by omega) (by omega)) (nI_clamp (by omega)) (v := .ref v0) (by rw [hm]; rfl) dEV_find_21 ?_
  exact x_aret S hr (Or.inl ⟨_, rfl⟩) hlk hw (by decide) (by decide) rfl (⟨rfl, rfl⟩) dEV_find_22

set_option maxHeartbeats 4000000 in
set_option maxRecDepth 100000 in
theorem f_des_no (l : Launch) (D : va_G) (cI cZ cV : ClassId) (h : Nat) (qc : Nat) (qj : Nat) (qe : Nat) (qs : Nat) (qm : Nat) (mc : Int32) (ctr : Int32) (act : Option Nat) (v : Int32) (hv : v < 0 ∨ mc ≤ v) : XI l yEV_destroy cEV_destroy 4 (some .int) D (xT3 cI cZ cV) 1 0 0 [.ref h, .int v] [(h, .inr (5, [.ref qc, .ref qj, .ref qe, .ref qs, .ref qm, .int mc, va_rf act, .int ctr]))] (fun r u => r = -1 ∧ u = [(h, .inr (5, [.ref qc, .ref qj, .ref qe, .ref qs, .ref qm, .int mc, va_rf act, .int ctr]))]) := by
  intro sz
  refine x_ofW (Qc := fun A => va_Qi _ (xB D A) A) sz (by decide) (Nat.le_of_ble_eq_true rfl) ?_
  intro p e s m args below meth c A ls S hr hlk hnm hw hl
  obtain ⟨hx, hb, hml, hown, hts⟩ := id S
  have hl : lv_has ls 4 [(0, .ref h), (1, .int v)] := hl
  refine lv_aload_n hx hb dEV_destroy_0 rfl (lv_at hl 0 rfl) ?_
  refine lv_iload_n hx hb dEV_destroy_1 rfl (lv_at hl 1 rfl) ?_
  refine x_callqD (ws' := [(h, .inr (5, [.ref qc, .ref qj, .ref qe, .ref qs, .ref qm, .int mc, va_rf act, .int ctr]))]) hw [0] rfl rfl (x_runV (n := 1) (rest := []) (As := [.int v]) S hw (k_find_no l D cI cZ cV h qc qj qe qs qm mc ctr act v hv _) xh_1_221 xh_1_218 xh_1_220 xsel_EV_find xh_1_1 (by decide +kernel) ⟨by decide, by decide⟩ [0] rfl rfl (ci := 5) (q0 := 0) rfl rfl rfl hl.1 rfl (Nat.le_of_ble_eq_true rfl) dEV_destroy_2 ⟨by decide, by decide⟩) rfl rfl rfl (fun H locs hw => ?_)
  refine lv_astore_nN (lv' := [(2, .null), (0, .ref h), (1, .int v)]) hx hb dEV_destroy_5 rfl hl (by decide) rfl (fun ls hl => ?_)
  refine lv_aload_nN hx hb dEV_destroy_6 rfl (lv_at hl 0 rfl) ?_
  refine lv_ifnonnullN hx hb dEV_destroy_7 ?_
  refine lv_iconst (v := (-1)) hx hb dEV_destroy_10 (by decide) ?_
  exact x_iret S hr hlk hw (by decide) (by decide) (⟨rfl, rfl⟩) dEV_destroy_11

set_option maxHeartbeats 4000000 in
set_option maxRecDepth 100000 in
theorem f_des_gone (l : Launch) (D : va_G) (cI cZ cV : ClassId) (h : Nat) (qc : Nat) (qj : Nat) (qe : Nat) (qs : Nat) (qm : Nat) (ctr : Int32) (act : Option Nat) (n1 : Nat) (mk : Nat → Option Nat) (k0 : Nat) (v0 : Nat) (v1 : Nat) (v2 : Nat) (dg : Nat → Int32) (gs : Nat → Int32) (num : Int32) (stt : Int32) (sec : Int32) (lk : Int32) (th : Int32) (sc : Int32) (gset : Int32) (gc : Int32) (hm : mk k0 = some v0) (hk : k0 < n1 ∧ n1 ≤ 8) (hs : stt = 3) : XI l yEV_destroy cEV_destroy 4 (some .int) D (xT3 cI cZ cV) 1 0 0 [.ref h, .int (nI k0)] [(h, .inr (5, [.ref qc, .ref qj, .ref qe, .ref qs, .ref qm, .int (nI n1), va_rf act, .int ctr])), (qm, .inl (cV, 8, .inr (.inr (.inr (.inr mk))))), (v0, .inr (4, [.int num, .ref v1, .ref v2, .int stt, .int sec, .int lk, .int th, .int sc, .int gset, .int gc])), (v1, .inl (cI, 9, .inl dg)), (v2, .inl (cI, 9, .inl gs))] (fun r u => r = -6 ∧ u = [(h, .inr (5, [.ref qc, .ref qj, .ref qe, .ref qs, .ref qm, .int (nI n1), va_rf act, .int ctr])), (qm, .inl (cV, 8, .inr (.inr (.inr (.inr mk))))), (v0, .inr (4, [.int num, .ref v1, .ref v2, .int stt, .int sec, .int lk, .int th, .int sc, .int gset, .int gc])), (v1, .inl (cI, 9, .inl dg)), (v2, .inl (cI, 9, .inl gs))]) := by
  intro sz
  refine x_ofW (Qc := fun A => va_Qi _ (xB D A) A) sz (by decide) (Nat.le_of_ble_eq_true rfl) ?_
  intro p e s m args below meth c A ls S hr hlk hnm hw hl
  obtain ⟨hx, hb, hml, hown, hts⟩ := id S
  have hl : lv_has ls 4 [(0, .ref h), (1, .int (nI k0))] := hl
  refine lv_aload_n hx hb dEV_destroy_0 rfl (lv_at hl 0 rfl) ?_
  refine lv_iload_n hx hb dEV_destroy_1 rfl (lv_at hl 1 rfl) ?_
  refine x_callqD (ws' := [(h, .inr (5, [.ref qc, .ref qj, .ref qe, .ref qs, .ref qm, .int (nI n1), va_rf act, .int ctr])), (qm, .inl (cV, 8, .inr (.inr (.inr (.inr mk))))), (v0, .inr (4, [.int num, .ref v1, .ref v2, .int stt, .int sec, .int lk, .int th, .int sc, .int gset, .int gc])), (v1, .inl (cI, 9, .inl dg)), (v2, .inl (cI, 9, .inl gs))]) hw [0, 1] rfl rfl (x_runV (n := 1) (rest := []) (As := [.int (nI k0)]) S hw (k_find_ok l D cI cZ cV h qc qj qe qs qm ctr act n1 mk k0 v0 hm hk _) xh_1_221 xh_1_218 xh_1_220 xsel_EV_find xh_1_1 (by decide +kernel) ⟨by decide, by decide⟩ [0, 1] rfl rfl (ci := 5) (q0 := 0) rfl rfl rfl hl.1 rfl (Nat.le_of_ble_eq_true rfl) dEV_destroy_2 ⟨by decide, by decide⟩) rfl rfl rfl (fun H locs hw => ?_)
  refine lv_astore_n (lv' := [(2, .ref v0), (0, .ref h), (1, .int (nI k0))]) hx hb dEV_destroy_5 rfl hl (by decide) rfl (fun ls hl => ?_)
  refine lv_aload_n hx hb dEV_destroy_6 rfl (lv_at hl 0 rfl) ?_
  refine lv_ifnonnull (tgt := 12) hx hb dEV_destroy_7 (by decide) ?_
  refine lv_aload_n hx hb dEV_destroy_12 rfl (lv_at hl 0 rfl) ?_
  refine x_getN S hw (C := RVE) (T := TVE) (N := 10) inVE 2 rfl rfl 3 (by decide) xh_1_172 (v := .int stt) rfl dEV_destroy_13 ?_
  refine lv_iconst (v := 3) hx hb dEV_destroy_16 (by decide) ?_
  refine lv_icmp_ne (tgt := 23) hx hb dEV_destroy_17 (by decide) (fun h17 => absurd hs h17) (fun h17 => ?_)
  refine lv_bipush (v := (-6)) hx hb dEV_destroy_20 (by decide) ?_
  exact x_iret S hr hlk hw (by decide) (by decide) (⟨rfl, rfl⟩) dEV_destroy_22

set_option maxHeartbeats 4000000 in
set_option maxRecDepth 100000 in
theorem f_des_full (l : Launch) (D : va_G) (cI cZ cV : ClassId) (h : Nat) (qc : Nat) (qj : Nat) (qe : Nat) (qs : Nat) (qm : Nat) (ctr : Int32) (act : Option Nat) (n1 : Nat) (mk : Nat → Option Nat) (k0 : Nat) (v0 : Nat) (v1 : Nat) (v2 : Nat) (dg : Nat → Int32) (gs : Nat → Int32) (num : Int32) (stt : Int32) (sec : Int32) (lk : Int32) (th : Int32) (sc : Int32) (gset : Int32) (gc : Int32) (j1 : Nat) (j2 : Nat) (j3 : Nat) (j4 : Nat) (ks : Nat → Int32) (ns : Nat → Int32) (ds : Nat → Int32) (ss : Nat → Int32) (c0 : Nat) (hm : mk k0 = some v0) (hk : k0 < n1 ∧ n1 ≤ 8) (hs : ¬ stt = 3) (hc : c0 = 80) : XI l yEV_destroy cEV_destroy 4 (some .int) D (xT3 cI cZ cV) 1 0 0 [.ref h, .int (nI k0)] [(h, .inr (5, [.ref qc, .ref qj, .ref qe, .ref qs, .ref qm, .int (nI n1), va_rf act, .int ctr])), (qm, .inl (cV, 8, .inr (.inr (.inr (.inr mk))))), (v0, .inr (4, [.int num, .ref v1, .ref v2, .int stt, .int sec, .int lk, .int th, .int sc, .int gset, .int gc])), (v1, .inl (cI, 9, .inl dg)), (v2, .inl (cI, 9, .inl gs)), (qj, .inr (2, [.ref j1, .ref j2, .ref j3, .ref j4, .int (nI c0)])), (j1, .inl (cI, 80, .inl ks)), (j2, .inl (cI, 80, .inl ns)), (j3, .inl (cI, 80, .inl ds)), (j4, .inl (cI, 80, .inl ss))] (fun r u => r = -2 ∧ u = [(h, .inr (5, [.ref qc, .ref qj, .ref qe, .ref qs, .ref qm, .int (nI n1), va_rf act, .int ctr])), (qm, .inl (cV, 8, .inr (.inr (.inr (.inr mk))))), (v0, .inr (4, [.int num, .ref v1, .ref v2, .int stt, .int sec, .int lk, .int th, .int sc, .int gset, .int gc])), (v1, .inl (cI, 9, .inl dg)), (v2, .inl (cI, 9, .inl gs)), (qj, .inr (2, [.ref j1, .ref j2, .ref j3, .ref j4, .int (nI c0)])), (j1, .inl (cI, 80, .inl ks)), (j2, .inl (cI, 80, .inl ns)), (j3, .inl (cI, 80, .inl ds)), (j4, .inl (cI, 80, .inl ss))]) := by
  intro sz
  refine x_ofW (Qc := fun A => va_Qi _ (xB D A) A) sz (by decide) (Nat.le_of_ble_eq_true rfl) ?_
  intro p e s m args below meth c A ls S hr hlk hnm hw hl
  obtain ⟨hx, hb, hml, hown, hts⟩ := id S
  have hl : lv_has ls 4 [(0, .ref h), (1, .int (nI k0))] := hl
  refine lv_aload_n hx hb dEV_destroy_0 rfl (lv_at hl 0 rfl) ?_
  refine lv_iload_n hx hb dEV_destroy_1 rfl (lv_at hl 1 rfl) ?_
  refine x_callqD (ws' := [(h, .inr (5, [.ref qc, .ref qj, .ref qe, .ref qs, .ref qm, .int (nI n1), va_rf act, .int ctr])), (qm, .inl (cV, 8, .inr (.inr (.inr (.inr mk))))), (v0, .inr (4, [.int num, .ref v1, .ref v2, .int stt, .int sec, .int lk, .int th, .int sc, .int gset, .int gc])), (v1, .inl (cI, 9, .inl dg)), (v2, .inl (cI, 9, .inl gs)), (qj, .inr (2, [.ref j1, .ref j2, .ref j3, .ref j4, .int (nI c0)])), (j1, .inl (cI, 80, .inl ks)), (j2, .inl (cI, 80, .inl ns)), (j3, .inl (cI, 80, .inl ds)), (j4, .inl (cI, 80, .inl ss))]) hw [0, 1] rfl rfl (x_runV (n := 1) (rest := []) (As := [.int (nI k0)]) S hw (k_find_ok l D cI cZ cV h qc qj qe qs qm ctr act n1 mk k0 v0 hm hk _) xh_1_221 xh_1_218 xh_1_220 xsel_EV_find xh_1_1 (by decide +kernel) ⟨by decide, by decide⟩ [0, 1] rfl rfl (ci := 5) (q0 := 0) rfl rfl rfl hl.1 rfl (Nat.le_of_ble_eq_true rfl) dEV_destroy_2 ⟨by decide, by decide⟩) rfl rfl rfl (fun H locs hw => ?_)
  refine lv_astore_n (lv' := [(2, .ref v0), (0, .ref h), (1, .int (nI k0))]) hx hb dEV_destroy_5 rfl hl (by decide) rfl (fun ls hl => ?_)
  refine lv_aload_n hx hb dEV_destroy_6 rfl (lv_at hl 0 rfl) ?_
  refine lv_ifnonnull (tgt := 12) hx hb dEV_destroy_7 (by decide) ?_
  refine lv_aload_n hx hb dEV_destroy_12 rfl (lv_at hl 0 rfl) ?_
  refine x_getN S hw (C := RVE) (T := TVE) (N := 10) inVE 2 rfl rfl 3 (by decide) xh_1_172 (v := .int stt) rfl dEV_destroy_13 ?_
  refine lv_iconst (v := 3) hx hb dEV_destroy_16 (by decide) ?_
  refine lv_icmp_ne (tgt := 23) hx hb dEV_destroy_17 (by decide) (fun h17 => ?_) (fun h17 => absurd h17 hs)
  refine lv_aload_n hx hb dEV_destroy_23 rfl (lv_at hl 1 rfl) ?_
  refine x_get S hw (C := REV) (T := TEV) (N := 8) inEV 0 rfl rfl 1 (by decide) xh_1_100 (v := .ref qj) rfl dEV_destroy_24 ?_
  refine lv_iconst (v := 1) hx hb dEV_destroy_27 (by decide) ?_
  refine x_calliD (ws' := [(h, .inr (5, [.ref qc, .ref qj, .ref qe, .ref qs, .ref qm, .int (nI n1), va_rf act, .int ctr])), (qm, .inl (cV, 8, .inr (.inr (.inr (.inr mk))))), (v0, .inr (4, [.int num, .ref v1, .ref v2, .int stt, .int sec, .int lk, .int th, .int sc, .int gset, .int gc])), (v1, .inl (cI, 9, .inl dg)), (v2, .inl (cI, 9, .inl gs)), (qj, .inr (2, [.ref j1, .ref j2, .ref j3, .ref j4, .int (nI c0)])), (j1, .inl (cI, 80, .inl ks)), (j2, .inl (cI, 80, .inl ns)), (j3, .inl (cI, 80, .inl ds)), (j4, .inl (cI, 80, .inl ss))]) hw [5, 6, 7, 8, 9] rfl rfl (x_runV (n := 1) (rest := []) (As := [.int 1]) S hw (k_room_n l D cI cZ cV qj j1 j2 j3 j4 ks ns ds ss c0 1 (by omega) (by omega) _) xh_1_153 xh_1_150 xh_1_151 xh_1_152 xh_1_3 (by decide +kernel) ⟨by decide, by decide⟩ [5, 6, 7, 8, 9] rfl rfl (ci := 2) (q0 := 5) rfl rfl rfl hl.1 rfl (Nat.le_of_ble_eq_true rfl) dEV_destroy_28 ⟨by decide, by decide⟩) rfl rfl (fun H locs hw => ?_)
  refine lv_if_ne (tgt := 37) hx hb dEV_destroy_31 (by decide) (fun h31 => absurd rfl h31) (fun h31 => ?_)
  refine lv_bipush (v := (-2)) hx hb dEV_destroy_34 (by decide) ?_
  exact x_iret S hr hlk hw (by decide) (by decide) (⟨rfl, rfl⟩) dEV_destroy_36

set_option maxHeartbeats 4000000 in
set_option maxRecDepth 100000 in
theorem f_des_ok (l : Launch) (D : va_G) (cI cZ cV : ClassId) (h : Nat) (qc : Nat) (qj : Nat) (qe : Nat) (qs : Nat) (qm : Nat) (ctr : Int32) (act : Option Nat) (n1 : Nat) (mk : Nat → Option Nat) (k0 : Nat) (v0 : Nat) (v1 : Nat) (v2 : Nat) (dg : Nat → Int32) (gs : Nat → Int32) (num : Int32) (stt : Int32) (sec : Int32) (lk : Int32) (th : Int32) (sc : Int32) (gset : Int32) (gc : Int32) (j1 : Nat) (j2 : Nat) (j3 : Nat) (j4 : Nat) (ks : Nat → Int32) (ns : Nat → Int32) (ds : Nat → Int32) (ss : Nat → Int32) (c0 : Nat) (hm : mk k0 = some v0) (hk : k0 < n1 ∧ n1 ≤ 8) (hs : ¬ stt = 3) (hs1 : ¬ stt = 1) (hc : c0 < 80) : XI l yEV_destroy cEV_destroy 4 (some .int) D (xT3 cI cZ cV) 3 0 0 [.ref h, .int (nI k0)] [(h, .inr (5, [.ref qc, .ref qj, .ref qe, .ref qs, .ref qm, .int (nI n1), va_rf act, .int ctr])), (qm, .inl (cV, 8, .inr (.inr (.inr (.inr mk))))), (v0, .inr (4, [.int num, .ref v1, .ref v2, .int stt, .int sec, .int lk, .int th, .int sc, .int gset, .int gc])), (v1, .inl (cI, 9, .inl dg)), (v2, .inl (cI, 9, .inl gs)), (qj, .inr (2, [.ref j1, .ref j2, .ref j3, .ref j4, .int (nI c0)])), (j1, .inl (cI, 80, .inl ks)), (j2, .inl (cI, 80, .inl ns)), (j3, .inl (cI, 80, .inl ds)), (j4, .inl (cI, 80, .inl ss))] (fun r u => r = stt ∧ u = [(h, .inr (5, [.ref qc, .ref qj, .ref qe, .ref qs, .ref qm, .int (nI n1), va_rf act, .int ctr])), (qm, .inl (cV, 8, .inr (.inr (.inr (.inr mk))))), (v0, .inr (4, [.int num, .ref v1, .ref v2, .int 3, .int 0, .int 0, .int 0, .int 0, .int 0, .int 0])), (v1, .inl (cI, 9, .inl (flF dg 0 9))), (v2, .inl (cI, 9, .inl (flF gs 0 9))), (qj, .inr (2, [.ref j1, .ref j2, .ref j3, .ref j4, .int (nI (c0 + 1))])), (j1, .inl (cI, 80, .inl (upd ks c0 (2)))), (j2, .inl (cI, 80, .inl (upd ns c0 (nI k0)))), (j3, .inl (cI, 80, .inl (upd ds c0 (stt)))), (j4, .inl (cI, 80, .inl (upd ss c0 (fMix (fMix (fMix (jBef ss c0) (2)) (nI k0)) (stt)))))]) := by
  intro sz
  refine x_ofW (Qc := fun A => va_Qi _ (xB D A) A) sz (by decide) (Nat.le_of_ble_eq_true rfl) ?_
  intro p e s m args below meth c A ls S hr hlk hnm hw hl
  obtain ⟨hx, hb, hml, hown, hts⟩ := id S
  have hl : lv_has ls 4 [(0, .ref h), (1, .int (nI k0))] := hl
  refine lv_aload_n hx hb dEV_destroy_0 rfl (lv_at hl 0 rfl) ?_
  refine lv_iload_n hx hb dEV_destroy_1 rfl (lv_at hl 1 rfl) ?_
  refine x_callqD (ws' := [(h, .inr (5, [.ref qc, .ref qj, .ref qe, .ref qs, .ref qm, .int (nI n1), va_rf act, .int ctr])), (qm, .inl (cV, 8, .inr (.inr (.inr (.inr mk))))), (v0, .inr (4, [.int num, .ref v1, .ref v2, .int stt, .int sec, .int lk, .int th, .int sc, .int gset, .int gc])), (v1, .inl (cI, 9, .inl dg)), (v2, .inl (cI, 9, .inl gs)), (qj, .inr (2, [.ref j1, .ref j2, .ref j3, .ref j4, .int (nI c0)])), (j1, .inl (cI, 80, .inl ks)), (j2, .inl (cI, 80, .inl ns)), (j3, .inl (cI, 80, .inl ds)), (j4, .inl (cI, 80, .inl ss))]) hw [0, 1] rfl rfl (x_runV (n := 1) (rest := []) (As := [.int (nI k0)]) S hw (k_find_ok l D cI cZ cV h qc qj qe qs qm ctr act n1 mk k0 v0 hm hk _) xh_1_221 xh_1_218 xh_1_220 xsel_EV_find xh_1_1 (by decide +kernel) ⟨by decide, by decide⟩ [0, 1] rfl rfl (ci := 5) (q0 := 0) rfl rfl rfl hl.1 rfl (Nat.le_of_ble_eq_true rfl) dEV_destroy_2 ⟨by decide, by decide⟩) rfl rfl rfl (fun H locs hw => ?_)
  refine lv_astore_n (lv' := [(2, .ref v0), (0, .ref h), (1, .int (nI k0))]) hx hb dEV_destroy_5 rfl hl (by decide) rfl (fun ls hl => ?_)
  refine lv_aload_n hx hb dEV_destroy_6 rfl (lv_at hl 0 rfl) ?_
  refine lv_ifnonnull (tgt := 12) hx hb dEV_destroy_7 (by decide) ?_
  refine lv_aload_n hx hb dEV_destroy_12 rfl (lv_at hl 0 rfl) ?_
  refine x_getN S hw (C := RVE) (T := TVE) (N := 10) inVE 2 rfl rfl 3 (by decide) xh_1_172 (v := .int stt) rfl dEV_destroy_13 ?_
  refine lv_iconst (v := 3) hx hb dEV_destroy_16 (by decide) ?_
  refine lv_icmp_ne (tgt := 23) hx hb dEV_destroy_17 (by decide) (fun h17 => ?_) (fun h17 => absurd h17 hs)
  refine lv_aload_n hx hb dEV_destroy_23 rfl (lv_at hl 1 rfl) ?_
  refine x_get S hw (C := REV) (T := TEV) (N := 8) inEV 0 rfl rfl 1 (by decide) xh_1_100 (v := .ref qj) rfl dEV_destroy_24 ?_
  refine lv_iconst (v := 1) hx hb dEV_destroy_27 (by decide) ?_
  refine x_calliD (ws' := [(h, .inr (5, [.ref qc, .ref qj, .ref qe, .ref qs, .ref qm, .int (nI n1), va_rf act, .int ctr])), (qm, .inl (cV, 8, .inr (.inr (.inr (.inr mk))))), (v0, .inr (4, [.int num, .ref v1, .ref v2, .int stt, .int sec, .int lk, .int th, .int sc, .int gset, .int gc])), (v1, .inl (cI, 9, .inl dg)), (v2, .inl (cI, 9, .inl gs)), (qj, .inr (2, [.ref j1, .ref j2, .ref j3, .ref j4, .int (nI c0)])), (j1, .inl (cI, 80, .inl ks)), (j2, .inl (cI, 80, .inl ns)), (j3, .inl (cI, 80, .inl ds)), (j4, .inl (cI, 80, .inl ss))]) hw [5, 6, 7, 8, 9] rfl rfl (x_runV (n := 1) (rest := []) (As := [.int 1]) S hw (k_room_y l D cI cZ cV qj j1 j2 j3 j4 ks ns ds ss c0 1 (by omega) _) xh_1_153 xh_1_150 xh_1_151 xh_1_152 xh_1_3 (by decide +kernel) ⟨by decide, by decide⟩ [5, 6, 7, 8, 9] rfl rfl (ci := 2) (q0 := 5) rfl rfl rfl hl.1 rfl (Nat.le_of_ble_eq_true rfl) dEV_destroy_28 ⟨by decide, by decide⟩) rfl rfl (fun H locs hw => ?_)
  refine lv_if_ne (tgt := 37) hx hb dEV_destroy_31 (by decide) (fun h31 => ?_) (fun h31 => absurd h31 (by decide))
  refine lv_aload_n hx hb dEV_destroy_37 rfl (lv_at hl 0 rfl) ?_
  refine x_getN S hw (C := RVE) (T := TVE) (N := 10) inVE 2 rfl rfl 3 (by decide) xh_1_172 (v := .int stt) rfl dEV_destroy_38 ?_
  refine lv_istore_n (lv' := [(3, .int stt), (2, .ref v0), (0, .ref h), (1, .int (nI k0))]) hx hb dEV_destroy_41 rfl hl (by decide) rfl (fun ls hl => ?_)
  refine lv_aload_n hx hb dEV_destroy_42 rfl (lv_at hl 1 rfl) ?_
  refine x_callvD (ws' := [(h, .inr (5, [.ref qc, .ref qj, .ref qe, .ref qs, .ref qm, .int (nI n1), va_rf act, .int ctr])), (qm, .inl (cV, 8, .inr (.inr (.inr (.inr mk))))), (v0, .inr (4, [.int num, .ref v1, .ref v2, .int 3, .int 0, .int 0, .int 0, .int 0, .int 0, .int 0])), (v1, .inl (cI, 9, .inl (flF dg 0 9))), (v2, .inl (cI, 9, .inl (flF gs 0 9))), (qj, .inr (2, [.ref j1, .ref j2, .ref j3, .ref j4, .int (nI c0)])), (j1, .inl (cI, 80, .inl ks)), (j2, .inl (cI, 80, .inl ns)), (j3, .inl (cI, 80, .inl ds)), (j4, .inl (cI, 80, .inl ss))]) hw [2, 3, 4] rfl rfl (x_runV (n := 0) (rest := []) (As := []) S hw (k_fall l D cI cZ cV v0 v1 v2 dg gs num stt sec lk th sc gset gc _) xh_1_225 xh_1_222 xh_1_223 xh_1_224 xh_1_8 (by decide +kernel) ⟨by decide, by decide⟩ [2, 3, 4] rfl rfl (ci := 4) (q0 := 2) rfl rfl rfl hl.1 rfl (Nat.le_of_ble_eq_true rfl) dEV_destroy_43 ⟨by decide, by decide⟩) rfl rfl (fun H locs hw => ?_)
  refine lv_iload_n hx hb dEV_destroy_46 rfl (lv_at hl 0 rfl) ?_
  refine lv_iconst (v := 1) hx hb dEV_destroy_47 (by decide) ?_
  refine lv_icmp_ne (tgt := 56) hx hb dEV_destroy_48 (by decide) (fun h48 => ?_) (fun h48 => absurd h48 hs1)
  refine lv_aload_n hx hb dEV_destroy_56 rfl (lv_at hl 2 rfl) ?_
  refine x_get S hw (C := REV) (T := TEV) (N := 8) inEV 0 rfl rfl 1 (by decide) xh_1_100 (v := .ref qj) rfl dEV_destroy_57 ?_
  refine lv_iconst (v := 2) hx hb dEV_destroy_60 (by decide) ?_
  refine lv_iload_n hx hb dEV_destroy_61 rfl (lv_at hl 3 rfl) ?_
  refine lv_iload_n hx hb dEV_destroy_62 rfl (lv_at hl 0 rfl) ?_
  refine x_callvD (ws' := [(h, .inr (5, [.ref qc, .ref qj, .ref qe, .ref qs, .ref qm, .int (nI n1), va_rf act, .int ctr])), (qm, .inl (cV, 8, .inr (.inr (.inr (.inr mk))))), (v0, .inr (4, [.int num, .ref v1, .ref v2, .int 3, .int 0, .int 0, .int 0, .int 0, .int 0, .int 0])), (v1, .inl (cI, 9, .inl (flF dg 0 9))), (v2, .inl (cI, 9, .inl (flF gs 0 9))), (qj, .inr (2, [.ref j1, .ref j2, .ref j3, .ref j4, .int (nI (c0 + 1))])), (j1, .inl (cI, 80, .inl (upd ks c0 2))), (j2, .inl (cI, 80, .inl (upd ns c0 (nI k0)))), (j3, .inl (cI, 80, .inl (upd ds c0 stt))), (j4, .inl (cI, 80, .inl (upd ss c0 (fMix (fMix (fMix (jBef ss c0) 2) (nI k0)) stt))))]) hw [5, 6, 7, 8, 9] rfl rfl (x_runV (n := 3) (rest := []) (As := [.int 2, .int (nI k0), .int stt]) S hw (k_write l D cI cZ cV qj j1 j2 j3 j4 ks ns ds ss c0 2 (nI k0) stt hc _) xh_1_208 xh_1_205 xh_1_206 xh_1_207 xh_1_3 (by decide +kernel) ⟨by decide, by decide⟩ [5, 6, 7, 8, 9] rfl rfl (ci := 2) (q0 := 5) rfl rfl rfl hl.1 rfl (Nat.le_of_ble_eq_true rfl) dEV_destroy_63 ⟨by decide, by decide⟩) rfl rfl (fun H locs hw => ?_)
  refine lv_iload_n hx hb dEV_destroy_66 rfl (lv_at hl 0 rfl) ?_
  exact x_iret S hr hlk hw (by decide) (by decide) (⟨rfl, rfl⟩) dEV_destroy_67

set_option maxHeartbeats 4000000 in
set_option maxRecDepth 100000 in
theorem f_des_act (l : Launch) (D : va_G) (cI cZ cV : ClassId) (h : Nat) (qc : Nat) (qj : Nat) (qe : Nat) (qs : Nat) (qm : Nat) (ctr : Int32) (act : Option Nat) (n1 : Nat) (mk : Nat → Option Nat) (k0 : Nat) (v0 : Nat) (v1 : Nat) (v2 : Nat) (dg : Nat → Int32) (gs : Nat → Int32) (num : Int32) (stt : Int32) (sec : Int32) (lk : Int32) (th : Int32) (sc : Int32) (gset : Int32) (gc : Int32) (j1 : Nat) (j2 : Nat) (j3 : Nat) (j4 : Nat) (ks : Nat → Int32) (ns : Nat → Int32) (ds : Nat → Int32) (ss : Nat → Int32) (c0 : Nat) (hm : mk k0 = some v0) (hk : k0 < n1 ∧ n1 ≤ 8) (hs : ¬ stt = 3) (hs1 : stt = 1) (hc : c0 < 80) : XI l yEV_destroy cEV_destroy 4 (some .int) D (xT3 cI cZ cV) 3 0 0 [.ref h, .int (nI k0)] [(h, .inr (5, [.ref qc, .ref qj, .ref qe, .ref qs, .ref qm, .int (nI n1), va_rf act, .int ctr])), (qm, .inl (cV, 8, .inr (.inr (.inr (.inr mk))))), (v0, .inr (4, [.int num, .ref v1, .ref v2, .int stt, .int sec, .int lk, .int th, .int sc, .int gset, .int gc])), (v1, .inl (cI, 9, .inl dg)), (v2, .inl (cI, 9, .inl gs)), (qj, .inr (2, [.ref j1, .ref j2, .ref j3, .ref j4, .int (nI c0)])), (j1, .inl (cI, 80, .inl ks)), (j2, .inl (cI, 80, .inl ns)), (j3, .inl (cI, 80, .inl ds)), (j4, .inl (cI, 80, .inl ss))] (fun r u => r = stt ∧ u = [(h, .inr (5, [.ref qc, .ref qj, .ref qe, .ref qs, .ref qm, .int (nI n1), .null, .int ctr])), (qm, .inl (cV, 8, .inr (.inr (.inr (.inr mk))))), (v0, .inr (4, [.int num, .ref v1, .ref v2, .int 3, .int 0, .int 0, .int 0, .int 0, .int 0, .int 0])), (v1, .inl (cI, 9, .inl (flF dg 0 9))), (v2, .inl (cI, 9, .inl (flF gs 0 9))), (qj, .inr (2, [.ref j1, .ref j2, .ref j3, .ref j4, .int (nI (c0 + 1))])), (j1, .inl (cI, 80, .inl (upd ks c0 (2)))), (j2, .inl (cI, 80, .inl (upd ns c0 (nI k0)))), (j3, .inl (cI, 80, .inl (upd ds c0 (stt)))), (j4, .inl (cI, 80, .inl (upd ss c0 (fMix (fMix (fMix (jBef ss c0) (2)) (nI k0)) (stt)))))]) := by
  intro sz
  refine x_ofW (Qc := fun A => va_Qi _ (xB D A) A) sz (by decide) (Nat.le_of_ble_eq_true rfl) ?_
  intro p e s m args below meth c A ls S hr hlk hnm hw hl
  obtain ⟨hx, hb, hml, hown, hts⟩ := id S
  have hl : lv_has ls 4 [(0, .ref h), (1, .int (nI k0))] := hl
  refine lv_aload_n hx hb dEV_destroy_0 rfl (lv_at hl 0 rfl) ?_
  refine lv_iload_n hx hb dEV_destroy_1 rfl (lv_at hl 1 rfl) ?_
  refine x_callqD (ws' := [(h, .inr (5, [.ref qc, .ref qj, .ref qe, .ref qs, .ref qm, .int (nI n1), va_rf act, .int ctr])), (qm, .inl (cV, 8, .inr (.inr (.inr (.inr mk))))), (v0, .inr (4, [.int num, .ref v1, .ref v2, .int stt, .int sec, .int lk, .int th, .int sc, .int gset, .int gc])), (v1, .inl (cI, 9, .inl dg)), (v2, .inl (cI, 9, .inl gs)), (qj, .inr (2, [.ref j1, .ref j2, .ref j3, .ref j4, .int (nI c0)])), (j1, .inl (cI, 80, .inl ks)), (j2, .inl (cI, 80, .inl ns)), (j3, .inl (cI, 80, .inl ds)), (j4, .inl (cI, 80, .inl ss))]) hw [0, 1] rfl rfl (x_runV (n := 1) (rest := []) (As := [.int (nI k0)]) S hw (k_find_ok l D cI cZ cV h qc qj qe qs qm ctr act n1 mk k0 v0 hm hk _) xh_1_221 xh_1_218 xh_1_220 xsel_EV_find xh_1_1 (by decide +kernel) ⟨by decide, by decide⟩ [0, 1] rfl rfl (ci := 5) (q0 := 0) rfl rfl rfl hl.1 rfl (Nat.le_of_ble_eq_true rfl) dEV_destroy_2 ⟨by decide, by decide⟩) rfl rfl rfl (fun H locs hw => ?_)
  refine lv_astore_n (lv' := [(2, .ref v0), (0, .ref h), (1, .int (nI k0))]) hx hb dEV_destroy_5 rfl hl (by decide) rfl (fun ls hl => ?_)
  refine lv_aload_n hx hb dEV_destroy_6 rfl (lv_at hl 0 rfl) ?_
  refine lv_ifnonnull (tgt := 12) hx hb dEV_destroy_7 (by decide) ?_
  refine lv_aload_n hx hb dEV_destroy_12 rfl (lv_at hl 0 rfl) ?_
  refine x_getN S hw (C := RVE) (T := TVE) (N := 10) inVE 2 rfl rfl 3 (by decide) xh_1_172 (v := .int stt) rfl dEV_destroy_13 ?_
  refine lv_iconst (v := 3) hx hb dEV_destroy_16 (by decide) ?_
  refine lv_icmp_ne (tgt := 23) hx hb dEV_destroy_17 (by decide) (fun h17 => ?_) (fun h17 => absurd h17 hs)
  refine lv_aload_n hx hb dEV_destroy_23 rfl (lv_at hl 1 rfl) ?_
  refine x_get S hw (C := REV) (T := TEV) (N := 8) inEV 0 rfl rfl 1 (by decide) xh_1_100 (v := .ref qj) rfl dEV_destroy_24 ?_
  refine lv_iconst (v := 1) hx hb dEV_destroy_27 (by decide) ?_
  refine x_calliD (ws' := [(h, .inr (5, [.ref qc, .ref qj, .ref qe, .ref qs, .ref qm, .int (nI n1), va_rf act, .int ctr])), (qm, .inl (cV, 8, .inr (.inr (.inr (.inr mk))))), (v0, .inr (4, [.int num, .ref v1, .ref v2, .int stt, .int sec, .int lk, .int th, .int sc, .int gset, .int gc])), (v1, .inl (cI, 9, .inl dg)), (v2, .inl (cI, 9, .inl gs)), (qj, .inr (2, [.ref j1, .ref j2, .ref j3, .ref j4, .int (nI c0)])), (j1, .inl (cI, 80, .inl ks)), (j2, .inl (cI, 80, .inl ns)), (j3, .inl (cI, 80, .inl ds)), (j4, .inl (cI, 80, .inl ss))]) hw [5, 6, 7, 8, 9] rfl rfl (x_runV (n := 1) (rest := []) (As := [.int 1]) S hw (k_room_y l D cI cZ cV qj j1 j2 j3 j4 ks ns ds ss c0 1 (by omega) _) xh_1_153 xh_1_150 xh_1_151 xh_1_152 xh_1_3 (by decide +kernel) ⟨by decide, by decide⟩ [5, 6, 7, 8, 9] rfl rfl (ci := 2) (q0 := 5) rfl rfl rfl hl.1 rfl (Nat.le_of_ble_eq_true rfl) dEV_destroy_28 ⟨by decide, by decide⟩) rfl rfl (fun H locs hw => ?_)
  refine lv_if_ne (tgt := 37) hx hb dEV_destroy_31 (by decide) (fun h31 => ?_) (fun h31 => absurd h31 (by decide))
  refine lv_aload_n hx hb dEV_destroy_37 rfl (lv_at hl 0 rfl) ?_
  refine x_getN S hw (C := RVE) (T := TVE) (N := 10) inVE 2 rfl rfl 3 (by decide) xh_1_172 (v := .int stt) rfl dEV_destroy_38 ?_
  refine lv_istore_n (lv' := [(3, .int stt), (2, .ref v0), (0, .ref h), (1, .int (nI k0))]) hx hb dEV_destroy_41 rfl hl (by decide) rfl (fun ls hl => ?_)
  refine lv_aload_n hx hb dEV_destroy_42 rfl (lv_at hl 1 rfl) ?_
  refine x_callvD (ws' := [(h, .inr (5, [.ref qc, .ref qj, .ref qe, .ref qs, .ref qm, .int (nI n1), va_rf act, .int ctr])), (qm, .inl (cV, 8, .inr (.inr (.inr (.inr mk))))), (v0, .inr (4, [.int num, .ref v1, .ref v2, .int 3, .int 0, .int 0, .int 0, .int 0, .int 0, .int 0])), (v1, .inl (cI, 9, .inl (flF dg 0 9))), (v2, .inl (cI, 9, .inl (flF gs 0 9))), (qj, .inr (2, [.ref j1, .ref j2, .ref j3, .ref j4, .int (nI c0)])), (j1, .inl (cI, 80, .inl ks)), (j2, .inl (cI, 80, .inl ns)), (j3, .inl (cI, 80, .inl ds)), (j4, .inl (cI, 80, .inl ss))]) hw [2, 3, 4] rfl rfl (x_runV (n := 0) (rest := []) (As := []) S hw (k_fall l D cI cZ cV v0 v1 v2 dg gs num stt sec lk th sc gset gc _) xh_1_225 xh_1_222 xh_1_223 xh_1_224 xh_1_8 (by decide +kernel) ⟨by decide, by decide⟩ [2, 3, 4] rfl rfl (ci := 4) (q0 := 2) rfl rfl rfl hl.1 rfl (Nat.le_of_ble_eq_true rfl) dEV_destroy_43 ⟨by decide, by decide⟩) rfl rfl (fun H locs hw => ?_)
  refine lv_iload_n hx hb dEV_destroy_46 rfl (lv_at hl 0 rfl) ?_
  refine lv_iconst (v := 1) hx hb dEV_destroy_47 (by decide) ?_
  refine lv_icmp_ne (tgt := 56) hx hb dEV_destroy_48 (by decide) (fun h48 => absurd hs1 h48) (fun h48 => ?_)
  refine lv_aload_n hx hb dEV_destroy_51 rfl (lv_at hl 2 rfl) ?_
  refine lv_null hx hb dEV_destroy_52 ?_
  refine x_put S hw (C := REV) (T := TEV) (N := 8) inEV tyEV tyEV_ok nmEV 0 rfl rfl 6 (by decide) xh_1_105 rfl (v := .null) rfl rfl (Nat.le_of_ble_eq_true rfl) (ws' := [(h, .inr (5, [.ref qc, .ref qj, .ref qe, .ref qs, .ref qm, .int (nI n1), .null, .int ctr])), (qm, .inl (cV, 8, .inr (.inr (.inr (.inr mk))))), (v0, .inr (4, [.int num, .ref v1, .ref v2, .int 3, .int 0, .int 0, .int 0, .int 0, .int 0, .int 0])), (v1, .inl (cI, 9, .inl (flF dg 0 9))), (v2, .inl (cI, 9, .inl (flF gs 0 9))), (qj, .inr (2, [.ref j1, .ref j2, .ref j3, .ref j4, .int (nI c0)])), (j1, .inl (cI, 80, .inl ks)), (j2, .inl (cI, 80, .inl ns)), (j3, .inl (cI, 80, .inl ds)), (j4, .inl (cI, 80, .inl ss))]) rfl dEV_destroy_53 (fun H locs hw => ?_)
  refine lv_aload_n hx hb dEV_destroy_56 rfl (lv_at hl 2 rfl) ?_
  refine x_get S hw (C := REV) (T := TEV) (N := 8) inEV 0 rfl rfl 1 (by decide) xh_1_100 (v := .ref qj) rfl dEV_destroy_57 ?_
  refine lv_iconst (v := 2) hx hb dEV_destroy_60 (by decide) ?_
  refine lv_iload_n hx hb dEV_destroy_61 rfl (lv_at hl 3 rfl) ?_
  refine lv_iload_n hx hb dEV_destroy_62 rfl (lv_at hl 0 rfl) ?_
  refine x_callvD (ws' := [(h, .inr (5, [.ref qc, .ref qj, .ref qe, .ref qs, .ref qm, .int (nI n1), .null, .int ctr])), (qm, .inl (cV, 8, .inr (.inr (.inr (.inr mk))))), (v0, .inr (4, [.int num, .ref v1, .ref v2, .int 3, .int 0, .int 0, .int 0, .int 0, .int 0, .int 0])), (v1, .inl (cI, 9, .inl (flF dg 0 9))), (v2, .inl (cI, 9, .inl (flF gs 0 9))), (qj, .inr (2, [.ref j1, .ref j2, .ref j3, .ref j4, .int (nI (c0 + 1))])), (j1, .inl (cI, 80, .inl (upd ks c0 2))), (j2, .inl (cI, 80, .inl (upd ns c0 (nI k0)))), (j3, .inl (cI, 80, .inl (upd ds c0 stt))), (j4, .inl (cI, 80, .inl (upd ss c0 (fMix (fMix (fMix (jBef ss c0) 2) (nI k0)) stt))))]) hw [5, 6, 7, 8, 9] rfl rfl (x_runV (n := 3) (rest := []) (As := [.int 2, .int (nI k0), .int stt]) S hw (k_write l D cI cZ cV qj j1 j2 j3 j4 ks ns ds ss c0 2 (nI k0) stt hc _) xh_1_208 xh_1_205 xh_1_206 xh_1_207 xh_1_3 (by decide +kernel) ⟨by decide, by decide⟩ [5, 6, 7, 8, 9] rfl rfl (ci := 2) (q0 := 5) rfl rfl rfl hl.1 rfl (Nat.le_of_ble_eq_true rfl) dEV_destroy_63 ⟨by decide, by decide⟩) rfl rfl (fun H locs hw => ?_)
  refine lv_iload_n hx hb dEV_destroy_66 rfl (lv_at hl 0 rfl) ?_
  exact x_iret S hr hlk hw (by decide) (by decide) (⟨rfl, rfl⟩) dEV_destroy_67

set_option maxHeartbeats 4000000 in
set_option maxRecDepth 100000 in
theorem f_spl_no (l : Launch) (D : va_G) (cI cZ cV : ClassId) (h : Nat) (qc : Nat) (qj : Nat) (qe : Nat) (qs : Nat) (qm : Nat) (mc : Int32) (ctr : Int32) (act : Option Nat) (v : Int32) (t : Int32) (n2 : Int32) (hv : v < 0 ∨ mc ≤ v) : XI l yEV_split cEV_split 5 (some .int) D (xT3 cI cZ cV) 1 0 0 [.ref h, .int v, .int t, .int n2] [(h, .inr (5, [.ref qc, .ref qj, .ref qe, .ref qs, .ref qm, .int mc, va_rf act, .int ctr]))] (fun r u => r = -1 ∧ u = [(h, .inr (5, [.ref qc, .ref qj, .ref qe, .ref qs, .ref qm, .int mc, va_rf act, .int ctr]))]) := by
  intro sz
  refine x_ofW (Qc := fun A => va_Qi _ (xB D A) A) sz (by decide) (Nat.le_of_ble_eq_true rfl) ?_
  intro p e s m args below meth c A ls S hr hlk hnm hw hl
  obtain ⟨hx, hb, hml, hown, hts⟩ := id S
  have hl : lv_has ls 5 [(0, .ref h), (1, .int v), (2, .int t), (3, .int n2)] := hl
  refine lv_aload_n hx hb dEV_split_0 rfl (lv_at hl 0 rfl) ?_
  refine lv_iload_n hx hb dEV_split_1 rfl (lv_at hl 1 rfl) ?_
  refine x_callqD (ws' := [(h, .inr (5, [.ref qc, .ref qj, .ref qe, .ref qs, .ref qm, .int mc, va_rf act, .int ctr]))]) hw [0] rfl rfl (x_runV (n := 1) (rest := []) (As := [.int v]) S hw (k_find_no l D cI cZ cV h qc qj qe qs qm mc ctr act v hv _) xh_1_221 xh_1_218 xh_1_220 xsel_EV_find xh_1_1 (by decide +kernel) ⟨by decide, by decide⟩ [0] rfl rfl (ci := 5) (q0 := 0) rfl rfl rfl hl.1 rfl (Nat.le_of_ble_eq_true rfl) dEV_split_2 ⟨by decide, by decide⟩) rfl rfl rfl (fun H locs hw => ?_)
  refine lv_astoreN (lv' := [(4, .null), (0, .ref h), (1, .int v), (2, .int t), (3, .int n2)]) hx hb dEV_split_5 hl (by decide) rfl (fun ls hl => ?_)
  refine lv_aloadN hx hb dEV_split_7 (lv_at hl 0 rfl) ?_
  refine lv_ifnullN (tgt := 20) hx hb dEV_split_9 (by decide) ?_
  refine lv_iconst (v := (-1)) hx hb dEV_split_20 (by decide) ?_
  exact x_iret S hr hlk hw (by decide) (by decide) (⟨rfl, rfl⟩) dEV_split_21

set_option maxHeartbeats 4000000 in
set_option maxRecDepth 100000 in
theorem f_spl_bad (l : Launch) (D : va_G) (cI cZ cV : ClassId) (h : Nat) (qc : Nat) (qj : Nat) (qe : Nat) (qs : Nat) (qm : Nat) (ctr : Int32) (act : Option Nat) (n1 : Nat) (mk : Nat → Option Nat) (k0 : Nat) (v0 : Nat) (t : Int32) (n2 : Int32) (hm : mk k0 = some v0) (hk : k0 < n1 ∧ n1 ≤ 8) (hE : fIsE t n2 = 0) : XI l yEV_split cEV_split 5 (some .int) D (xT3 cI cZ cV) 1 0 0 [.ref h, .int (nI k0), .int t, .int n2] [(h, .inr (5, [.ref qc, .ref qj, .ref qe, .ref qs, .ref qm, .int (nI n1), va_rf act, .int ctr])), (qm, .inl (cV, 8, .inr (.inr (.inr (.inr mk)))))] (fun r u => r = -1 ∧ u = [(h, .inr (5, [.ref qc, .ref qj, .ref qe, .ref qs, .ref qm, .int (nI n1), va_rf act, .int ctr])), (qm, .inl (cV, 8, .inr (.inr (.inr (.inr mk)))))]) := by
  intro sz
  refine x_ofW (Qc := fun A => va_Qi _ (xB D A) A) sz (by decide) (Nat.le_of_ble_eq_true rfl) ?_
  intro p e s m args below meth c A ls S hr hlk hnm hw hl
  obtain ⟨hx, hb, hml, hown, hts⟩ := id S
  have hl : lv_has ls 5 [(0, .ref h), (1, .int (nI k0)), (2, .int t), (3, .int n2)] := hl
  refine lv_aload_n hx hb dEV_split_0 rfl (lv_at hl 0 rfl) ?_
  refine lv_iload_n hx hb dEV_split_1 rfl (lv_at hl 1 rfl) ?_
  refine x_callqD (ws' := [(h, .inr (5, [.ref qc, .ref qj, .ref qe, .ref qs, .ref qm, .int (nI n1), va_rf act, .int ctr])), (qm, .inl (cV, 8, .inr (.inr (.inr (.inr mk)))))]) hw [0, 1] rfl rfl (x_runV (n := 1) (rest := []) (As := [.int (nI k0)]) S hw (k_find_ok l D cI cZ cV h qc qj qe qs qm ctr act n1 mk k0 v0 hm hk _) xh_1_221 xh_1_218 xh_1_220 xsel_EV_find xh_1_1 (by decide +kernel) ⟨by decide, by decide⟩ [0, 1] rfl rfl (ci := 5) (q0 := 0) rfl rfl rfl hl.1 rfl (Nat.le_of_ble_eq_true rfl) dEV_split_2 ⟨by decide, by decide⟩) rfl rfl rfl (fun H locs hw => ?_)
  refine lv_astore (lv' := [(4, .ref v0), (0, .ref h), (1, .int (nI k0)), (2, .int t), (3, .int n2)]) hx hb dEV_split_5 hl (by decide) rfl (fun ls hl => ?_)
  refine lv_aload hx hb dEV_split_7 (lv_at hl 0 rfl) ?_
  refine lv_ifnull hx hb dEV_split_9 ?_
  refine lv_iload_n hx hb dEV_split_12 rfl (lv_at hl 3 rfl) ?_
  refine lv_iload_n hx hb dEV_split_13 rfl (lv_at hl 4 rfl) ?_
  refine x_calliD (ws' := [(h, .inr (5, [.ref qc, .ref qj, .ref qe, .ref qs, .ref qm, .int (nI n1), va_rf act, .int ctr])), (qm, .inl (cV, 8, .inr (.inr (.inr (.inr mk)))))]) hw [] rfl rfl (x_runS (n := 2) (rest := []) (As := [.int t, .int n2]) S hw (k_isE l D cI cZ cV t n2 _) xh_1_239 xh_1_237 xh_1_238 xh_1_1 (by decide +kernel) ⟨by decide, by decide⟩ [] rfl rfl rfl hl.1 rfl (Nat.le_of_ble_eq_true rfl) dEV_split_14 ⟨by decide, by decide⟩) rfl rfl (fun H locs hw => ?_)
  refine lv_if_ne (tgt := 22) hx hb dEV_split_17 (by decide) (fun h17 => absurd hE h17) (fun h17 => ?_)
  refine lv_iconst (v := (-1)) hx hb dEV_split_20 (by decide) ?_
  exact x_iret S hr hlk hw (by decide) (by decide) (⟨rfl, rfl⟩) dEV_split_21

set_option maxHeartbeats 4000000 in
set_option maxRecDepth 100000 in
theorem f_spl_gone (l : Launch) (D : va_G) (cI cZ cV : ClassId) (h : Nat) (qc : Nat) (qj : Nat) (qe : Nat) (qs : Nat) (qm : Nat) (ctr : Int32) (act : Option Nat) (n1 : Nat) (mk : Nat → Option Nat) (k0 : Nat) (v0 : Nat) (v1 : Nat) (v2 : Nat) (dg : Nat → Int32) (gs : Nat → Int32) (num : Int32) (stt : Int32) (sec : Int32) (lk : Int32) (th : Int32) (sc : Int32) (gset : Int32) (gc : Int32) (t : Int32) (n2 : Int32) (hm : mk k0 = some v0) (hk : k0 < n1 ∧ n1 ≤ 8) (hE : ¬ fIsE t n2 = 0) (hs : stt = 3) : XI l yEV_split cEV_split 5 (some .int) D (xT3 cI cZ cV) 1 0 0 [.ref h, .int (nI k0), .int t, .int n2] [(h, .inr (5, [.ref qc, .ref qj, .ref qe, .ref qs, .ref qm, .int (nI n1), va_rf act, .int ctr])), (qm, .inl (cV, 8, .inr (.inr (.inr (.inr mk))))), (v0, .inr (4, [.int num, .ref v1, .ref v2, .int stt, .int sec, .int lk, .int th, .int sc, .int gset, .int gc])), (v1, .inl (cI, 9, .inl dg)), (v2, .inl (cI, 9, .inl gs))] (fun r u => r = -6 ∧ u = [(h, .inr (5, [.ref qc, .ref qj, .ref qe, .ref qs, .ref qm, .int (nI n1), va_rf act, .int ctr])), (qm, .inl (cV, 8, .inr (.inr (.inr (.inr mk))))), (v0, .inr (4, [.int num, .ref v1, .ref v2, .int stt, .int sec, .int lk, .int th, .int sc, .int gset, .int gc])), (v1, .inl (cI, 9, .inl dg)), (v2, .inl (cI, 9, .inl gs))]) := by
  intro sz
  refine x_ofW (Qc := fun A => va_Qi _ (xB D A) A) sz (by decide) (Nat.le_of_ble_eq_true rfl) ?_
  intro p e s m args below meth c A ls S hr hlk hnm hw hl
  obtain ⟨hx, hb, hml, hown, hts⟩ := id S
  have hl : lv_has ls 5 [(0, .ref h), (1, .int (nI k0)), (2, .int t), (3, .int n2)] := hl
  refine lv_aload_n hx hb dEV_split_0 rfl (lv_at hl 0 rfl) ?_
  refine lv_iload_n hx hb dEV_split_1 rfl (lv_at hl 1 rfl) ?_
  refine x_callqD (ws' := [(h, .inr (5, [.ref qc, .ref qj, .ref qe, .ref qs, .ref qm, .int (nI n1), va_rf act, .int ctr])), (qm, .inl (cV, 8, .inr (.inr (.inr (.inr mk))))), (v0, .inr (4, [.int num, .ref v1, .ref v2, .int stt, .int sec, .int lk, .int th, .int sc, .int gset, .int gc])), (v1, .inl (cI, 9, .inl dg)), (v2, .inl (cI, 9, .inl gs))]) hw [0, 1] rfl rfl (x_runV (n := 1) (rest := []) (As := [.int (nI k0)]) S hw (k_find_ok l D cI cZ cV h qc qj qe qs qm ctr act n1 mk k0 v0 hm hk _) xh_1_221 xh_1_218 xh_1_220 xsel_EV_find xh_1_1 (by decide +kernel) ⟨by decide, by decide⟩ [0, 1] rfl rfl (ci := 5) (q0 := 0) rfl rfl rfl hl.1 rfl (Nat.le_of_ble_eq_true rfl) dEV_split_2 ⟨by decide, by decide⟩) rfl rfl rfl (fun H locs hw => ?_)
  refine lv_astore (lv' := [(4, .ref v0), (0, .ref h), (1, .int (nI k0)), (2, .int t), (3, .int n2)]) hx hb dEV_split_5 hl (by decide) rfl (fun ls hl => ?_)
  refine lv_aload hx hb dEV_split_7 (lv_at hl 0 rfl) ?_
  refine lv_ifnull hx hb dEV_split_9 ?_
  refine lv_iload_n hx hb dEV_split_12 rfl (lv_at hl 3 rfl) ?_
  refine lv_iload_n hx hb dEV_split_13 rfl (lv_at hl 4 rfl) ?_
  refine x_calliD (ws' := [(h, .inr (5, [.ref qc, .ref qj, .ref qe, .ref qs, .ref qm, .int (nI n1), va_rf act, .int ctr])), (qm, .inl (cV, 8, .inr (.inr (.inr (.inr mk))))), (v0, .inr (4, [.int num, .ref v1, .ref v2, .int stt, .int sec, .int lk, .int th, .int sc, .int gset, .int gc])), (v1, .inl (cI, 9, .inl dg)), (v2, .inl (cI, 9, .inl gs))]) hw [] rfl rfl (x_runS (n := 2) (rest := []) (As := [.int t, .int n2]) S hw (k_isE l D cI cZ cV t n2 _) xh_1_239 xh_1_237 xh_1_238 xh_1_1 (by decide +kernel) ⟨by decide, by decide⟩ [] rfl rfl rfl hl.1 rfl (Nat.le_of_ble_eq_true rfl) dEV_split_14 ⟨by decide, by decide⟩) rfl rfl (fun H locs hw => ?_)
  refine lv_if_ne (tgt := 22) hx hb dEV_split_17 (by decide) (fun h17 => ?_) (fun h17 => absurd h17 hE)
  refine lv_aload hx hb dEV_split_22 (lv_at hl 0 rfl) ?_
  refine x_getN S hw (C := RVE) (T := TVE) (N := 10) inVE 2 rfl rfl 3 (by decide) xh_1_172 (v := .int stt) rfl dEV_split_24 ?_
  refine lv_iconst (v := 3) hx hb dEV_split_27 (by decide) ?_
  refine lv_icmp_ne (tgt := 34) hx hb dEV_split_28 (by decide) (fun h28 => absurd hs h28) (fun h28 => ?_)
  refine lv_bipush (v := (-6)) hx hb dEV_split_31 (by decide) ?_
  exact x_iret S hr hlk hw (by decide) (by decide) (⟨rfl, rfl⟩) dEV_split_33

set_option maxHeartbeats 4000000 in
set_option maxRecDepth 100000 in
theorem f_spl_lock (l : Launch) (D : va_G) (cI cZ cV : ClassId) (h : Nat) (qc : Nat) (qj : Nat) (qe : Nat) (qs : Nat) (qm : Nat) (ctr : Int32) (act : Option Nat) (n1 : Nat) (mk : Nat → Option Nat) (k0 : Nat) (v0 : Nat) (v1 : Nat) (v2 : Nat) (dg : Nat → Int32) (gs : Nat → Int32) (num : Int32) (stt : Int32) (sec : Int32) (lk : Int32) (th : Int32) (sc : Int32) (gset : Int32) (gc : Int32) (t : Int32) (n2 : Int32) (hm : mk k0 = some v0) (hk : k0 < n1 ∧ n1 ≤ 8) (hE : ¬ fIsE t n2 = 0) (hs : ¬ stt = 3) (hl9 : ¬ lk = 0) : XI l yEV_split cEV_split 5 (some .int) D (xT3 cI cZ cV) 1 0 0 [.ref h, .int (nI k0), .int t, .int n2] [(h, .inr (5, [.ref qc, .ref qj, .ref qe, .ref qs, .ref qm, .int (nI n1), va_rf act, .int ctr])), (qm, .inl (cV, 8, .inr (.inr (.inr (.inr mk))))), (v0, .inr (4, [.int num, .ref v1, .ref v2, .int stt, .int sec, .int lk, .int th, .int sc, .int gset, .int gc])), (v1, .inl (cI, 9, .inl dg)), (v2, .inl (cI, 9, .inl gs))] (fun r u => r = -7 ∧ u = [(h, .inr (5, [.ref qc, .ref qj, .ref qe, .ref qs, .ref qm, .int (nI n1), va_rf act, .int ctr])), (qm, .inl (cV, 8, .inr (.inr (.inr (.inr mk))))), (v0, .inr (4, [.int num, .ref v1, .ref v2, .int stt, .int sec, .int lk, .int th, .int sc, .int gset, .int gc])), (v1, .inl (cI, 9, .inl dg)), (v2, .inl (cI, 9, .inl gs))]) := by
  intro sz
  refine x_ofW (Qc := fun A => va_Qi _ (xB D A) A) sz (by decide) (Nat.le_of_ble_eq_true rfl) ?_
  intro p e s m args below meth c A ls S hr hlk hnm hw hl
  obtain ⟨hx, hb, hml, hown, hts⟩ := id S
  have hl : lv_has ls 5 [(0, .ref h), (1, .int (nI k0)), (2, .int t), (3, .int n2)] := hl
  refine lv_aload_n hx hb dEV_split_0 rfl (lv_at hl 0 rfl) ?_
  refine lv_iload_n hx hb dEV_split_1 rfl (lv_at hl 1 rfl) ?_
  refine x_callqD (ws' := [(h, .inr (5, [.ref qc, .ref qj, .ref qe, .ref qs, .ref qm, .int (nI n1), va_rf act, .int ctr])), (qm, .inl (cV, 8, .inr (.inr (.inr (.inr mk))))), (v0, .inr (4, [.int num, .ref v1, .ref v2, .int stt, .int sec, .int lk, .int th, .int sc, .int gset, .int gc])), (v1, .inl (cI, 9, .inl dg)), (v2, .inl (cI, 9, .inl gs))]) hw [0, 1] rfl rfl (x_runV (n := 1) (rest := []) (As := [.int (nI k0)]) S hw (k_find_ok l D cI cZ cV h qc qj qe qs qm ctr act n1 mk k0 v0 hm hk _) xh_1_221 xh_1_218 xh_1_220 xsel_EV_find xh_1_1 (by decide +kernel) ⟨by decide, by decide⟩ [0, 1] rfl rfl (ci := 5) (q0 := 0) rfl rfl rfl hl.1 rfl (Nat.le_of_ble_eq_true rfl) dEV_split_2 ⟨by decide, by decide⟩) rfl rfl rfl (fun H locs hw => ?_)
  refine lv_astore (lv' := [(4, .ref v0), (0, .ref h), (1, .int (nI k0)), (2, .int t), (3, .int n2)]) hx hb dEV_split_5 hl (by decide) rfl (fun ls hl => ?_)
  refine lv_aload hx hb dEV_split_7 (lv_at hl 0 rfl) ?_
  refine lv_ifnull hx hb dEV_split_9 ?_
  refine lv_iload_n hx hb dEV_split_12 rfl (lv_at hl 3 rfl) ?_
  refine lv_iload_n hx hb dEV_split_13 rfl (lv_at hl 4 rfl) ?_
  refine x_calliD (ws' := [(h, .inr (5, [.ref qc, .ref qj, .ref qe, .ref qs, .ref qm, .int (nI n1), va_rf act, .int ctr])), (qm, .inl (cV, 8, .inr (.inr (.inr (.inr mk))))), (v0, .inr (4, [.int num, .ref v1, .ref v2, .int stt, .int sec, .int lk, .int th, .int sc, .int gset, .int gc])), (v1, .inl (cI, 9, .inl dg)), (v2, .inl (cI, 9, .inl gs))]) hw [] rfl rfl (x_runS (n := 2) (rest := []) (As := [.int t, .int n2]) S hw (k_isE l D cI cZ cV t n2 _) xh_1_239 xh_1_237 xh_1_238 xh_1_1 (by decide +kernel) ⟨by decide, by decide⟩ [] rfl rfl rfl hl.1 rfl (Nat.le_of_ble_eq_true rfl) dEV_split_14 ⟨by decide, by decide⟩) rfl rfl (fun H locs hw => ?_)
  refine lv_if_ne (tgt := 22) hx hb dEV_split_17 (by decide) (fun h17 => ?_) (fun h17 => absurd h17 hE)
  refine lv_aload hx hb dEV_split_22 (lv_at hl 0 rfl) ?_
  refine x_getN S hw (C := RVE) (T := TVE) (N := 10) inVE 2 rfl rfl 3 (by decide) xh_1_172 (v := .int stt) rfl dEV_split_24 ?_
  refine lv_iconst (v := 3) hx hb dEV_split_27 (by decide) ?_
  refine lv_icmp_ne (tgt := 34) hx hb dEV_split_28 (by decide) (fun h28 => ?_) (fun h28 => absurd h28 hs)
  refine lv_aload hx hb dEV_split_34 (lv_at hl 0 rfl) ?_
  refine x_getN S hw (C := RVE) (T := TVE) (N := 10) inVE 2 rfl rfl 5 (by decide) xh_1_176 (v := .int lk) rfl dEV_split_36 ?_
  refine lv_if_eq (tgt := 45) hx hb dEV_split_39 (by decide) (fun h39 => absurd h39 hl9) (fun h39 => ?_)
  refine lv_bipush (v := (-7)) hx hb dEV_split_42 (by decide) ?_
  exact x_iret S hr hlk hw (by decide) (by decide) (⟨rfl, rfl⟩) dEV_split_44

set_option maxHeartbeats 4000000 in
set_option maxRecDepth 100000 in
theorem f_spl_full (l : Launch) (D : va_G) (cI cZ cV : ClassId) (h : Nat) (qc : Nat) (qj : Nat) (qe : Nat) (qs : Nat) (qm : Nat) (ctr : Int32) (act : Option Nat) (n1 : Nat) (mk : Nat → Option Nat) (k0 : Nat) (v0 : Nat) (v1 : Nat) (v2 : Nat) (dg : Nat → Int32) (gs : Nat → Int32) (num : Int32) (stt : Int32) (sec : Int32) (lk : Int32) (th : Int32) (sc : Int32) (gset : Int32) (gc : Int32) (j1 : Nat) (j2 : Nat) (j3 : Nat) (j4 : Nat) (ks : Nat → Int32) (ns : Nat → Int32) (ds : Nat → Int32) (ss : Nat → Int32) (c0 : Nat) (t : Int32) (n2 : Int32) (hm : mk k0 = some v0) (hk : k0 < n1 ∧ n1 ≤ 8) (hE : ¬ fIsE t n2 = 0) (hs : ¬ stt = 3) (hl9 : lk = 0) (hc : c0 = 80) : XI l yEV_split cEV_split 5 (some .int) D (xT3 cI cZ cV) 1 0 0 [.ref h, .int (nI k0), .int t, .int n2] [(h, .inr (5, [.ref qc, .ref qj, .ref qe, .ref qs, .ref qm, .int (nI n1), va_rf act, .int ctr])), (qm, .inl (cV, 8, .inr (.inr (.inr (.inr mk))))), (v0, .inr (4, [.int num, .ref v1, .ref v2, .int stt, .int sec, .int lk, .int th, .int sc, .int gset, .int gc])), (v1, .inl (cI, 9, .inl dg)), (v2, .inl (cI, 9, .inl gs)), (qj, .inr (2, [.ref j1, .ref j2, .ref j3, .ref j4, .int (nI c0)])), (j1, .inl (cI, 80, .inl ks)), (j2, .inl (cI, 80, .inl ns)), (j3, .inl (cI, 80, .inl ds)), (j4, .inl (cI, 80, .inl ss))] (fun r u => r = -2 ∧ u = [(h, .inr (5, [.ref qc, .ref qj, .ref qe, .ref qs, .ref qm, .int (nI n1), va_rf act, .int ctr])), (qm, .inl (cV, 8, .inr (.inr (.inr (.inr mk))))), (v0, .inr (4, [.int num, .ref v1, .ref v2, .int stt, .int sec, .int lk, .int th, .int sc, .int gset, .int gc])), (v1, .inl (cI, 9, .inl dg)), (v2, .inl (cI, 9, .inl gs)), (qj, .inr (2, [.ref j1, .ref j2, .ref j3, .ref j4, .int (nI c0)])), (j1, .inl (cI, 80, .inl ks)), (j2, .inl (cI, 80, .inl ns)), (j3, .inl (cI, 80, .inl ds)), (j4, .inl (cI, 80, .inl ss))]) := by
  intro sz
  refine x_ofW (Qc := fun A => va_Qi _ (xB D A) A) sz (by decide) (Nat.le_of_ble_eq_true rfl) ?_
  intro p e s m args below meth c A ls S hr hlk hnm hw hl
  obtain ⟨hx, hb, hml, hown, hts⟩ := id S
  have hl : lv_has ls 5 [(0, .ref h), (1, .int (nI k0)), (2, .int t), (3, .int n2)] := hl
  refine lv_aload_n hx hb dEV_split_0 rfl (lv_at hl 0 rfl) ?_
  refine lv_iload_n hx hb dEV_split_1 rfl (lv_at hl 1 rfl) ?_
  refine x_callqD (ws' := [(h, .inr (5, [.ref qc, .ref qj, .ref qe, .ref qs, .ref qm, .int (nI n1), va_rf act, .int ctr])), (qm, .inl (cV, 8, .inr (.inr (.inr (.inr mk))))), (v0, .inr (4, [.int num, .ref v1, .ref v2, .int stt, .int sec, .int lk, .int th, .int sc, .int gset, .int gc])), (v1, .inl (cI, 9, .inl dg)), (v2, .inl (cI, 9, .inl gs)), (qj, .inr (2, [.ref j1, .ref j2, .ref j3, .ref j4, .int (nI c0)])), (j1, .inl (cI, 80, .inl ks)), (j2, .inl (cI, 80, .inl ns)), (j3, .inl (cI, 80, .inl ds)), (j4, .inl (cI, 80, .inl ss))]) hw [0, 1] rfl rfl (x_runV (n := 1) (rest := []) (As := [.int (nI k0)]) S hw (k_find_ok l D cI cZ cV h qc qj qe qs qm ctr act n1 mk k0 v0 hm hk _) xh_1_221 xh_1_218 xh_1_220 xsel_EV_find xh_1_1 (by decide +kernel) ⟨by decide, by decide⟩ [0, 1] rfl rfl (ci := 5) (q0 := 0) rfl rfl rfl hl.1 rfl (Nat.le_of_ble_eq_true rfl) dEV_split_2 ⟨by decide, by decide⟩) rfl rfl rfl (fun H locs hw => ?_)
  refine lv_astore (lv' := [(4, .ref v0), (0, .ref h), (1, .int (nI k0)), (2, .int t), (3, .int n2)]) hx hb dEV_split_5 hl (by decide) rfl (fun ls hl => ?_)
  refine lv_aload hx hb dEV_split_7 (lv_at hl 0 rfl) ?_
  refine lv_ifnull hx hb dEV_split_9 ?_
  refine lv_iload_n hx hb dEV_split_12 rfl (lv_at hl 3 rfl) ?_
  refine lv_iload_n hx hb dEV_split_13 rfl (lv_at hl 4 rfl) ?_
  refine x_calliD (ws' := [(h, .inr (5, [.ref qc, .ref qj, .ref qe, .ref qs, .ref qm, .int (nI n1), va_rf act, .int ctr])), (qm, .inl (cV, 8, .inr (.inr (.inr (.inr mk))))), (v0, .inr (4, [.int num, .ref v1, .ref v2, .int stt, .int sec, .int lk, .int th, .int sc, .int gset, .int gc])), (v1, .inl (cI, 9, .inl dg)), (v2, .inl (cI, 9, .inl gs)), (qj, .inr (2, [.ref j1, .ref j2, .ref j3, .ref j4, .int (nI c0)])), (j1, .inl (cI, 80, .inl ks)), (j2, .inl (cI, 80, .inl ns)), (j3, .inl (cI, 80, .inl ds)), (j4, .inl (cI, 80, .inl ss))]) hw [] rfl rfl (x_runS (n := 2) (rest := []) (As := [.int t, .int n2]) S hw (k_isE l D cI cZ cV t n2 _) xh_1_239 xh_1_237 xh_1_238 xh_1_1 (by decide +kernel) ⟨by decide, by decide⟩ [] rfl rfl rfl hl.1 rfl (Nat.le_of_ble_eq_true rfl) dEV_split_14 ⟨by decide, by decide⟩) rfl rfl (fun H locs hw => ?_)
  refine lv_if_ne (tgt := 22) hx hb dEV_split_17 (by decide) (fun h17 => ?_) (fun h17 => absurd h17 hE)
  refine lv_aload hx hb dEV_split_22 (lv_at hl 0 rfl) ?_
  refine x_getN S hw (C := RVE) (T := TVE) (N := 10) inVE 2 rfl rfl 3 (by decide) xh_1_172 (v := .int stt) rfl dEV_split_24 ?_
  refine lv_iconst (v := 3) hx hb dEV_split_27 (by decide) ?_
  refine lv_icmp_ne (tgt := 34) hx hb dEV_split_28 (by decide) (fun h28 => ?_) (fun h28 => absurd h28 hs)
  refine lv_aload hx hb dEV_split_34 (lv_at hl 0 rfl) ?_
  refine x_getN S hw (C := RVE) (T := TVE) (N := 10) inVE 2 rfl rfl 5 (by decide) xh_1_176 (v := .int lk) rfl dEV_split_36 ?_
  refine lv_if_eq (tgt := 45) hx hb dEV_split_39 (by decide) (fun h39 => ?_) (fun h39 => absurd hl9 h39)
  refine lv_aload_n hx hb dEV_split_45 rfl (lv_at hl 1 rfl) ?_
  refine x_get S hw (C := REV) (T := TEV) (N := 8) inEV 0 rfl rfl 1 (by decide) xh_1_100 (v := .ref qj) rfl dEV_split_46 ?_
  refine lv_iconst (v := 1) hx hb dEV_split_49 (by decide) ?_
  refine x_calliD (ws' := [(h, .inr (5, [.ref qc, .ref qj, .ref qe, .ref qs, .ref qm, .int (nI n1), va_rf act, .int ctr])), (qm, .inl (cV, 8, .inr (.inr (.inr (.inr mk))))), (v0, .inr (4, [.int num, .ref v1, .ref v2, .int stt, .int sec, .int lk, .int th, .int sc, .int gset, .int gc])), (v1, .inl (cI, 9, .inl dg)), (v2, .inl (cI, 9, .inl gs)), (qj, .inr (2, [.ref j1, .ref j2, .ref j3, .ref j4, .int (nI c0)])), (j1, .inl (cI, 80, .inl ks)), (j2, .inl (cI, 80, .inl ns)), (j3, .inl (cI, 80, .inl ds)), (j4, .inl (cI, 80, .inl ss))]) hw [5, 6, 7, 8, 9] rfl rfl (x_runV (n := 1) (rest := []) (As := [.int 1]) S hw (k_room_n l D cI cZ cV qj j1 j2 j3 j4 ks ns ds ss c0 1 (by omega) (by omega) _) xh_1_153 xh_1_150 xh_1_151 xh_1_152 xh_1_3 (by decide +kernel) ⟨by decide, by decide⟩ [5, 6, 7, 8, 9] rfl rfl (ci := 2) (q0 := 5) rfl rfl rfl hl.1 rfl (Nat.le_of_ble_eq_true rfl) dEV_split_50 ⟨by decide, by decide⟩) rfl rfl (fun H locs hw => ?_)
  refine lv_if_ne (tgt := 59) hx hb dEV_split_53 (by decide) (fun h53 => absurd rfl h53) (fun h53 => ?_)
  refine lv_bipush (v := (-2)) hx hb dEV_split_56 (by decide) ?_
  exact x_iret S hr hlk hw (by decide) (by decide) (⟨rfl, rfl⟩) dEV_split_58

set_option maxHeartbeats 4000000 in
set_option maxRecDepth 100000 in
theorem f_spl_coins (l : Launch) (D : va_G) (cI cZ cV : ClassId) (h : Nat) (qc : Nat) (qj : Nat) (qe : Nat) (qs : Nat) (qm : Nat) (ctr : Int32) (act : Option Nat) (n1 : Nat) (mk : Nat → Option Nat) (k0 : Nat) (v0 : Nat) (v1 : Nat) (v2 : Nat) (dg : Nat → Int32) (gs : Nat → Int32) (num : Int32) (stt : Int32) (sec : Int32) (lk : Int32) (th : Int32) (sc : Int32) (gset : Int32) (gc : Int32) (j1 : Nat) (j2 : Nat) (j3 : Nat) (j4 : Nat) (ks : Nat → Int32) (ns : Nat → Int32) (ds : Nat → Int32) (ss : Nat → Int32) (c0 : Nat) (qr : Nat) (ring : Nat → Int32) (f : Nat) (n : Nat) (t1 : Nat) (n0 : Nat) (hm : mk k0 = some v0) (hk : k0 < n1 ∧ n1 ≤ 8) (hE : ¬ fIsE (nI (t1 + 1)) (nI n0) = 0) (hs : ¬ stt = 3) (hl9 : lk = 0) (hc : c0 < 80) (ht : t1 + 1 ≤ n0 ∧ n0 ≤ 8) (hn : n < 4 * t1) : XI l yEV_split cEV_split 5 (some .int) D (xT3 cI cZ cV) 1 0 0 [.ref h, .int (nI k0), .int (nI (t1 + 1)), .int (nI n0)] [(h, .inr (5, [.ref qc, .ref qj, .ref qe, .ref qs, .ref qm, .int (nI n1), va_rf act, .int ctr])), (qm, .inl (cV, 8, .inr (.inr (.inr (.inr mk))))), (v0, .inr (4, [.int num, .ref v1, .ref v2, .int stt, .int sec, .int lk, .int th, .int sc, .int gset, .int gc])), (v1, .inl (cI, 9, .inl dg)), (v2, .inl (cI, 9, .inl gs)), (qj, .inr (2, [.ref j1, .ref j2, .ref j3, .ref j4, .int (nI c0)])), (j1, .inl (cI, 80, .inl ks)), (j2, .inl (cI, 80, .inl ns)), (j3, .inl (cI, 80, .inl ds)), (j4, .inl (cI, 80, .inl ss)), (qc, .inr (0, [.ref qr, .int (nI f), .int (nI n)])), (qr, .inl (cI, 64, .inl ring))] (fun r u => r = -3 ∧ u = [(h, .inr (5, [.ref qc, .ref qj, .ref qe, .ref qs, .ref qm, .int (nI n1), va_rf act, .int ctr])), (qm, .inl (cV, 8, .inr (.inr (.inr (.inr mk))))), (v0, .inr (4, [.int num, .ref v1, .ref v2, .int stt, .int sec, .int lk, .int th, .int sc, .int gset, .int gc])), (v1, .inl (cI, 9, .inl dg)), (v2, .inl (cI, 9, .inl gs)), (qj, .inr (2, [.ref j1, .ref j2, .ref j3, .ref j4, .int (nI c0)])), (j1, .inl (cI, 80, .inl ks)), (j2, .inl (cI, 80, .inl ns)), (j3, .inl (cI, 80, .inl ds)), (j4, .inl (cI, 80, .inl ss)), (qc, .inr (0, [.ref qr, .int (nI f), .int (nI n)])), (qr, .inl (cI, 64, .inl ring))]) := by
  intro sz
  refine x_ofW (Qc := fun A => va_Qi _ (xB D A) A) sz (by decide) (Nat.le_of_ble_eq_true rfl) ?_
  intro p e s m args below meth c A ls S hr hlk hnm hw hl
  obtain ⟨hx, hb, hml, hown, hts⟩ := id S
  have hl : lv_has ls 5 [(0, .ref h), (1, .int (nI k0)), (2, .int (nI (t1 + 1))), (3, .int (nI n0))] := hl
  refine lv_aload_n hx hb dEV_split_0 rfl (lv_at hl 0 rfl) ?_
  refine lv_iload_n hx hb dEV_split_1 rfl (lv_at hl 1 rfl) ?_
  refine x_callqD (ws' := [(h, .inr (5, [.ref qc, .ref qj, .ref qe, .ref qs, .ref qm, .int (nI n1), va_rf act, .int ctr])), (qm, .inl (cV, 8, .inr (.inr (.inr (.inr mk))))), (v0, .inr (4, [.int num, .ref v1, .ref v2, .int stt, .int sec, .int lk, .int th, .int sc, .int gset, .int gc])), (v1, .inl (cI, 9, .inl dg)), (v2, .inl (cI, 9, .inl gs)), (qj, .inr (2, [.ref j1, .ref j2, .ref j3, .ref j4, .int (nI c0)])), (j1, .inl (cI, 80, .inl ks)), (j2, .inl (cI, 80, .inl ns)), (j3, .inl (cI, 80, .inl ds)), (j4, .inl (cI, 80, .inl ss)), (qc, .inr (0, [.ref qr, .int (nI f), .int (nI n)])), (qr, .inl (cI, 64, .inl ring))]) hw [0, 1] rfl rfl (x_runV (n := 1) (rest := []) (As := [.int (nI k0)]) S hw (k_find_ok l D cI cZ cV h qc qj qe qs qm ctr act n1 mk k0 v0 hm hk _) xh_1_221 xh_1_218 xh_1_220 xsel_EV_find xh_1_1 (by decide +kernel) ⟨by decide, by decide⟩ [0, 1] rfl rfl (ci := 5) (q0 := 0) rfl rfl rfl hl.1 rfl (Nat.le_of_ble_eq_true rfl) dEV_split_2 ⟨by decide, by decide⟩) rfl rfl rfl (fun H locs hw => ?_)
  refine lv_astore (lv' := [(4, .ref v0), (0, .ref h), (1, .int (nI k0)), (2, .int (nI (t1 + 1))), (3, .int (nI n0))]) hx hb dEV_split_5 hl (by decide) rfl (fun ls hl => ?_)
  refine lv_aload hx hb dEV_split_7 (lv_at hl 0 rfl) ?_
  refine lv_ifnull hx hb dEV_split_9 ?_
  refine lv_iload_n hx hb dEV_split_12 rfl (lv_at hl 3 rfl) ?_
  refine lv_iload_n hx hb dEV_split_13 rfl (lv_at hl 4 rfl) ?_
  refine x_calliD (ws' := [(h, .inr (5, [.ref qc, .ref qj, .ref qe, .ref qs, .ref qm, .int (nI n1), va_rf act, .int ctr])), (qm, .inl (cV, 8, .inr (.inr (.inr (.inr mk))))), (v0, .inr (4, [.int num, .ref v1, .ref v2, .int stt, .int sec, .int lk, .int th, .int sc, .int gset, .int gc])), (v1, .inl (cI, 9, .inl dg)), (v2, .inl (cI, 9, .inl gs)), (qj, .inr (2, [.ref j1, .ref j2, .ref j3, .ref j4, .int (nI c0)])), (j1, .inl (cI, 80, .inl ks)), (j2, .inl (cI, 80, .inl ns)), (j3, .inl (cI, 80, .inl ds)), (j4, .inl (cI, 80, .inl ss)), (qc, .inr (0, [.ref qr, .int (nI f), .int (nI n)])), (qr, .inl (cI, 64, .inl ring))]) hw [] rfl rfl (x_runS (n := 2) (rest := []) (As := [.int (nI (t1 + 1)), .int (nI n0)]) S hw (k_isE l D cI cZ cV (nI (t1 + 1)) (nI n0) _) xh_1_239 xh_1_237 xh_1_238 xh_1_1 (by decide +kernel) ⟨by decide, by decide⟩ [] rfl rfl rfl hl.1 rfl (Nat.le_of_ble_eq_true rfl) dEV_split_14 ⟨by decide, by decide⟩) rfl rfl (fun H locs hw => ?_)
  refine lv_if_ne (tgt := 22) hx hb dEV_split_17 (by decide) (fun h17 => ?_) (fun h17 => absurd h17 hE)
  refine lv_aload hx hb dEV_split_22 (lv_at hl 0 rfl) ?_
  refine x_getN S hw (C := RVE) (T := TVE) (N := 10) inVE 2 rfl rfl 3 (by decide) xh_1_172 (v := .int stt) rfl dEV_split_24 ?_
  refine lv_iconst (v := 3) hx hb dEV_split_27 (by decide) ?_
  refine lv_icmp_ne (tgt := 34) hx hb dEV_split_28 (by decide) (fun h28 => ?_) (fun h28 => absurd h28 hs)
  refine lv_aload hx hb dEV_split_34 (lv_at hl 0 rfl) ?_
  refine x_getN S hw (C := RVE) (T := TVE) (N := 10) inVE 2 rfl rfl 5 (by decide) xh_1_176 (v := .int lk) rfl dEV_split_36 ?_
  refine lv_if_eq (tgt := 45) hx hb dEV_split_39 (by decide) (fun h39 => ?_) (fun h39 => absurd hl9 h39)
  refine lv_aload_n hx hb dEV_split_45 rfl (lv_at hl 1 rfl) ?_
  refine x_get S hw (C := REV) (T := TEV) (N := 8) inEV 0 rfl rfl 1 (by decide) xh_1_100 (v := .ref qj) rfl dEV_split_46 ?_
  refine lv_iconst (v := 1) hx hb dEV_split_49 (by decide) ?_
  refine x_calliD (ws' := [(h, .inr (5, [.ref qc, .ref qj, .ref qe, .ref qs, .ref qm, .int (nI n1), va_rf act, .int ctr])), (qm, .inl (cV, 8, .inr (.inr (.inr (.inr mk))))), (v0, .inr (4, [.int num, .ref v1, .ref v2, .int stt, .int sec, .int lk, .int th, .int sc, .int gset, .int gc])), (v1, .inl (cI, 9, .inl dg)), (v2, .inl (cI, 9, .inl gs)), (qj, .inr (2, [.ref j1, .ref j2, .ref j3, .ref j4, .int (nI c0)])), (j1, .inl (cI, 80, .inl ks)), (j2, .inl (cI, 80, .inl ns)), (j3, .inl (cI, 80, .inl ds)), (j4, .inl (cI, 80, .inl ss)), (qc, .inr (0, [.ref qr, .int (nI f), .int (nI n)])), (qr, .inl (cI, 64, .inl ring))]) hw [5, 6, 7, 8, 9] rfl rfl (x_runV (n := 1) (rest := []) (As := [.int 1]) S hw (k_room_y l D cI cZ cV qj j1 j2 j3 j4 ks ns ds ss c0 1 (by omega) _) xh_1_153 xh_1_150 xh_1_151 xh_1_152 xh_1_3 (by decide +kernel) ⟨by decide, by decide⟩ [5, 6, 7, 8, 9] rfl rfl (ci := 2) (q0 := 5) rfl rfl rfl hl.1 rfl (Nat.le_of_ble_eq_true rfl) dEV_split_50 ⟨by decide, by decide⟩) rfl rfl (fun H locs hw => ?_)
  refine lv_if_ne (tgt := 59) hx hb dEV_split_53 (by decide) (fun h53 => ?_) (fun h53 => absurd h53 (by decide))
  refine lv_aload_n hx hb dEV_split_59 rfl (lv_at hl 1 rfl) ?_
  refine x_get S hw (C := REV) (T := TEV) (N := 8) inEV 0 rfl rfl 0 (by decide) xh_1_99 (v := .ref qc) rfl dEV_split_60 ?_
  refine x_getN S hw (C := RCR) (T := TCR) (N := 3) inCR 10 rfl rfl 2 (by decide) xh_1_27 (v := .int (nI n)) rfl dEV_split_63 ?_
  refine lv_iconst (v := 4) hx hb dEV_split_66 (by decide) ?_
  refine lv_iload_n hx hb dEV_split_67 rfl (lv_at hl 3 rfl) ?_
  refine lv_iconst (v := 1) hx hb dEV_split_68 (by decide) ?_
  refine lv_isub hx hb dEV_split_69 ?_
  refine x_topi (y := nI t1) (nI_pred t1) ?_
  refine lv_imul hx hb dEV_split_70 ?_
  refine x_topi (y := nI (4 * t1)) (pk_mul 4 t1) ?_
  refine lv_icmp_ge (tgt := 77) hx hb dEV_split_71 (by decide) (fun h71 => absurd h71 (nI_ge (by omega) (by omega))) (fun h71 => ?_)
  refine lv_bipush (v := (-3)) hx hb dEV_split_74 (by decide) ?_
  exact x_iret S hr hlk hw (by decide) (by decide) (⟨rfl, rfl⟩) dEV_split_76

set_option maxHeartbeats 4000000 in
set_option maxRecDepth 100000 in
theorem f_spl_ok (l : Launch) (D : va_G) (cI cZ cV : ClassId) (h : Nat) (qc : Nat) (qj : Nat) (qe : Nat) (qs : Nat) (qm : Nat) (ctr : Int32) (act : Option Nat) (n1 : Nat) (mk : Nat → Option Nat) (k0 : Nat) (v0 : Nat) (v1 : Nat) (v2 : Nat) (dg : Nat → Int32) (gs : Nat → Int32) (num : Int32) (stt : Int32) (sec : Int32) (lk : Int32) (th : Int32) (sc : Int32) (gset : Int32) (gc : Int32) (j1 : Nat) (j2 : Nat) (j3 : Nat) (j4 : Nat) (ks : Nat → Int32) (ns : Nat → Int32) (ds : Nat → Int32) (ss : Nat → Int32) (c0 : Nat) (qr : Nat) (ring : Nat → Int32) (f : Nat) (n : Nat) (s1 : Nat) (s2 : Nat) (sh : Nat → Int32) (C : Nat → Int32) (n9 : Int32) (t1 : Nat) (n0 : Nat) (hm : mk k0 = some v0) (hk : k0 < n1 ∧ n1 ≤ 8) (hE : ¬ fIsE (nI (t1 + 1)) (nI n0) = 0) (hs : ¬ stt = 3) (hl9 : lk = 0) (hc : c0 < 80) (ht : t1 + 1 ≤ n0 ∧ n0 ≤ 8) (hf : f < 64) (hn : n + 4 * t1 ≤ 64) : XI l yEV_split cEV_split 5 (some .int) D (xT3 cI cZ cV) 3 0 0 [.ref h, .int (nI k0), .int (nI (t1 + 1)), .int (nI n0)] [(h, .inr (5, [.ref qc, .ref qj, .ref qe, .ref qs, .ref qm, .int (nI n1), va_rf act, .int ctr])), (qm, .inl (cV, 8, .inr (.inr (.inr (.inr mk))))), (v0, .inr (4, [.int num, .ref v1, .ref v2, .int stt, .int sec, .int lk, .int th, .int sc, .int gset, .int gc])), (v1, .inl (cI, 9, .inl dg)), (v2, .inl (cI, 9, .inl gs)), (qj, .inr (2, [.ref j1, .ref j2, .ref j3, .ref j4, .int (nI c0)])), (j1, .inl (cI, 80, .inl ks)), (j2, .inl (cI, 80, .inl ns)), (j3, .inl (cI, 80, .inl ds)), (j4, .inl (cI, 80, .inl ss)), (qc, .inr (0, [.ref qr, .int (nI f), .int (nI (n + 4 * t1))])), (qr, .inl (cI, 64, .inl ring)), (qs, .inr (3, [.ref s1, .ref s2, .int n9])), (s1, .inl (cI, 9, .inl sh)), (s2, .inl (cI, 8, .inl C))] (fun r u => r = nI n0 ∧ u = [(h, .inr (5, [.ref qc, .ref qj, .ref qe, .ref qs, .ref qm, .int (nI n1), va_rf act, .int ctr])), (qm, .inl (cV, 8, .inr (.inr (.inr (.inr mk))))), (v0, .inr (4, [.int num, .ref v1, .ref v2, .int stt, .int sec, .int lk, .int (nI (t1 + 1)), .int (nI n0), .int gset, .int gc])), (v1, .inl (cI, 9, .inl (teF (flF dg 0 9) (mkG (flF sh 0 9) C ring f t1 n0 sec 4).1 n0))), (v2, .inl (cI, 9, .inl gs)), (qj, .inr (2, [.ref j1, .ref j2, .ref j3, .ref j4, .int (nI (c0 + 1))])), (j1, .inl (cI, 80, .inl (upd ks c0 (3)))), (j2, .inl (cI, 80, .inl (upd ns c0 (nI k0)))), (j3, .inl (cI, 80, .inl (upd ds c0 (16 * nI (t1 + 1) + nI n0)))), (j4, .inl (cI, 80, .inl (upd ss c0 (fMix (fMix (fMix (jBef ss c0) (3)) (nI k0)) (16 * nI (t1 + 1) + nI n0))))), (qc, .inr (0, [.ref qr, .int (nI ((f + 4 * t1) % 64)), .int (nI n)])), (qr, .inl (cI, 64, .inl (tkR ring f (4 * t1)))), (qs, .inr (3, [.ref s1, .ref s2, .int (nI n0)])), (s1, .inl (cI, 9, .inl ((mkG (flF sh 0 9) C ring f t1 n0 sec 4).1))), (s2, .inl (cI, 8, .inl (flF (mkG (flF sh 0 9) C ring f t1 n0 sec 4).2 0 8)))]) := by
  intro sz
  refine x_ofW (Qc := fun A => va_Qi _ (xB D A) A) sz (by decide) (Nat.le_of_ble_eq_true rfl) ?_
  intro p e s m args below meth c A ls S hr hlk hnm hw hl
  obtain ⟨hx, hb, hml, hown, hts⟩ := id S
  have hl : lv_has ls 5 [(0, .ref h), (1, .int (nI k0)), (2, .int (nI (t1 + 1))), (3, .int (nI n0))] := hl
  refine lv_aload_n hx hb dEV_split_0 rfl (lv_at hl 0 rfl) ?_
  refine lv_iload_n hx hb dEV_split_1 rfl (lv_at hl 1 rfl) ?_
  refine x_callqD (ws' := [(h, .inr (5, [.ref qc, .ref qj, .ref qe, .ref qs, .ref qm, .int (nI n1), va_rf act, .int ctr])), (qm, .inl (cV, 8, .inr (.inr (.inr (.inr mk))))), (v0, .inr (4, [.int num, .ref v1, .ref v2, .int stt, .int sec, .int lk, .int th, .int sc, .int gset, .int gc])), (v1, .inl (cI, 9, .inl dg)), (v2, .inl (cI, 9, .inl gs)), (qj, .inr (2, [.ref j1, .ref j2, .ref j3, .ref j4, .int (nI c0)])), (j1, .inl (cI, 80, .inl ks)), (j2, .inl (cI, 80, .inl ns)), (j3, .inl (cI, 80, .inl ds)), (j4, .inl (cI, 80, .inl ss)), (qc, .inr (0, [.ref qr, .int (nI f), .int (nI (n + 4 * t1))])), (qr, .inl (cI, 64, .inl ring)), (qs, .inr (3, [.ref s1, .ref s2, .int n9])), (s1, .inl (cI, 9, .inl sh)), (s2, .inl (cI, 8, .inl C))]) hw [0, 1] rfl rfl (x_runV (n := 1) (rest := []) (As := [.int (nI k0)]) S hw (k_find_ok l D cI cZ cV h qc qj qe qs qm ctr act n1 mk k0 v0 hm hk _) xh_1_221 xh_1_218 xh_1_220 xsel_EV_find xh_1_1 (by decide +kernel) ⟨by decide, by decide⟩ [0, 1] rfl rfl (ci := 5) (q0 := 0) rfl rfl rfl hl.1 rfl (Nat.le_of_ble_eq_true rfl) dEV_split_2 ⟨by decide, by decide⟩) rfl rfl rfl (fun H locs hw => ?_)
  refine lv_astore (lv' := [(4, .ref v0), (0, .ref h), (1, .int (nI k0)), (2, .int (nI (t1 + 1))), (3, .int (nI n0))]) hx hb dEV_split_5 hl (by decide) rfl (fun ls hl => ?_)
  refine lv_aload hx hb dEV_split_7 (lv_at hl 0 rfl) ?_
  refine lv_ifnull hx hb dEV_split_9 ?_
  refine lv_iload_n hx hb dEV_split_12 rfl (lv_at hl 3 rfl) ?_
  refine lv_iload_n hx hb dEV_split_13 rfl (lv_at hl 4 rfl) ?_
  refine x_calliD (ws' := [(h, .inr (5, [.ref qc, .ref qj, .ref qe, .ref qs, .ref qm, .int (nI n1), va_rf act, .int ctr])), (qm, .inl (cV, 8, .inr (.inr (.inr (.inr mk))))), (v0, .inr (4, [.int num, .ref v1, .ref v2, .int stt, .int sec, .int lk, .int th, .int sc, .int gset, .int gc])), (v1, .inl (cI, 9, .inl dg)), (v2, .inl (cI, 9, .inl gs)), (qj, .inr (2, [.ref j1, .ref j2, .ref j3, .ref j4, .int (nI c0)])), (j1, .inl (cI, 80, .inl ks)), (j2, .inl (cI, 80, .inl ns)), (j3, .inl (cI, 80, .inl ds)), (j4, .inl (cI, 80, .inl ss)), (qc, .inr (0, [.ref qr, .int (nI f), .int (nI (n + 4 * t1))])), (qr, .inl (cI, 64, .inl ring)), (qs, .inr (3, [.ref s1, .ref s2, .int n9])), (s1, .inl (cI, 9, .inl sh)), (s2, .inl (cI, 8, .inl C))]) hw [] rfl rfl (x_runS (n := 2) (rest := []) (As := [.int (nI (t1 + 1)), .int (nI n0)]) S hw (k_isE l D cI cZ cV (nI (t1 + 1)) (nI n0) _) xh_1_239 xh_1_237 xh_1_238 xh_1_1 (by decide +kernel) ⟨by decide, by decide⟩ [] rfl rfl rfl hl.1 rfl (Nat.le_of_ble_eq_true rfl) dEV_split_14 ⟨by decide, by decide⟩) rfl rfl (fun H locs hw => ?_)
  refine lv_if_ne (tgt := 22) hx hb dEV_split_17 (by decide) (fun h17 => ?_) (fun h17 => absurd h17 hE)
  refine lv_aload hx hb dEV_split_22 (lv_at hl 0 rfl) ?_
  refine x_getN S hw (C := RVE) (T := TVE) (N := 10) inVE 2 rfl rfl 3 (by decide) xh_1_172 (v := .int stt) rfl dEV_split_24 ?_
  refine lv_iconst (v := 3) hx hb dEV_split_27 (by decide) ?_
  refine lv_icmp_ne (tgt := 34) hx hb dEV_split_28 (by decide) (fun h28 => ?_) (fun h28 => absurd h28 hs)
  refine lv_aload hx hb dEV_split_34 (lv_at hl 0 rfl) ?_
  refine x_getN S hw (C := RVE) (T := TVE) (N := 10) inVE 2 rfl rfl 5 (by decide) xh_1_176 (v := .int lk) rfl dEV_split_36 ?_
  refine lv_if_eq (tgt := 45) hx hb dEV_split_39 (by decide) (fun h39 => ?_) (fun h39 => absurd hl9 h39)
  refine lv_aload_n hx hb dEV_split_45 rfl (lv_at hl 1 rfl) ?_
  refine x_get S hw (C := REV) (T := TEV) (N := 8) inEV 0 rfl rfl 1 (by decide) xh_1_100 (v := .ref qj) rfl dEV_split_46 ?_
  refine lv_iconst (v := 1) hx hb dEV_split_49 (by decide) ?_
  refine x_calliD (ws' := [(h, .inr (5, [.ref qc, .ref qj, .ref qe, .ref qs, .ref qm, .int (nI n1), va_rf act, .int ctr])), (qm, .inl (cV, 8, .inr (.inr (.inr (.inr mk))))), (v0, .inr (4, [.int num, .ref v1, .ref v2, .int stt, .int sec, .int lk, .int th, .int sc, .int gset, .int gc])), (v1, .inl (cI, 9, .inl dg)), (v2, .inl (cI, 9, .inl gs)), (qj, .inr (2, [.ref j1, .ref j2, .ref j3, .ref j4, .int (nI c0)])), (j1, .inl (cI, 80, .inl ks)), (j2, .inl (cI, 80, .inl ns)), (j3, .inl (cI, 80, .inl ds)), (j4, .inl (cI, 80, .inl ss)), (qc, .inr (0, [.ref qr, .int (nI f), .int (nI (n + 4 * t1))])), (qr, .inl (cI, 64, .inl ring)), (qs, .inr (3, [.ref s1, .ref s2, .int n9])), (s1, .inl (cI, 9, .inl sh)), (s2, .inl (cI, 8, .inl C))]) hw [5, 6, 7, 8, 9] rfl rfl (x_runV (n := 1) (rest := []) (As := [.int 1]) S hw (k_room_y l D cI cZ cV qj j1 j2 j3 j4 ks ns ds ss c0 1 (by omega) _) xh_1_153 xh_1_150 xh_1_151 xh_1_152 xh_1_3 (by decide +kernel) ⟨by decide, by decide⟩ [5, 6, 7, 8, 9] rfl rfl (ci := 2) (q0 := 5) rfl rfl rfl hl.1 rfl (Nat.le_of_ble_eq_true rfl) dEV_split_50 ⟨by decide, by decide⟩) rfl rfl (fun H locs hw => ?_)
  refine lv_if_ne (tgt := 59) hx hb dEV_split_53 (by decide) (fun h53 => ?_) (fun h53 => absurd h53 (by decide))
  refine lv_aload_n hx hb dEV_split_59 rfl (lv_at hl 1 rfl) ?_
  refine x_get S hw (C := REV) (T := TEV) (N := 8) inEV 0 rfl rfl 0 (by decide) xh_1_99 (v := .ref qc) rfl dEV_split_60 ?_
  refine x_getN S hw (C := RCR) (T := TCR) (N := 3) inCR 10 rfl rfl 2 (by decide) xh_1_27 (v := .int (nI (n + 4 * t1))) rfl dEV_split_63 ?_
  refine lv_iconst (v := 4) hx hb dEV_split_66 (by decide) ?_
  refine lv_iload_n hx hb dEV_split_67 rfl (lv_at hl 3 rfl) ?_
  refine lv_iconst (v := 1) hx hb dEV_split_68 (by decide) ?_
  refine lv_isub hx hb dEV_split_69 ?_
  refine x_topi (y := nI t1) (nI_pred t1) ?_
  refine lv_imul hx hb dEV_split_70 ?_
  refine x_topi (y := nI (4 * t1)) (pk_mul 4 t1) ?_
  refine lv_icmp_ge (tgt := 77) hx hb dEV_split_71 (by decide) (fun h71 => ?_) (fun h71 => absurd (nI_le (by omega) (by omega)) h71)
  refine lv_aload_n hx hb dEV_split_77 rfl (lv_at hl 1 rfl) ?_
  refine x_get S hw (C := REV) (T := TEV) (N := 8) inEV 0 rfl rfl 3 (by decide) xh_1_102 (v := .ref qs) rfl dEV_split_78 ?_
  refine lv_aload hx hb dEV_split_81 (lv_at hl 0 rfl) ?_
  refine x_getN S hw (C := RVE) (T := TVE) (N := 10) inVE 2 rfl rfl 4 (by decide) xh_1_174 (v := .int sec) rfl dEV_split_83 ?_
  refine lv_iload_n hx hb dEV_split_86 rfl (lv_at hl 3 rfl) ?_
  refine lv_iload_n hx hb dEV_split_87 rfl (lv_at hl 4 rfl) ?_
  refine lv_aload_n hx hb dEV_split_88 rfl (lv_at hl 1 rfl) ?_
  refine x_get S hw (C := REV) (T := TEV) (N := 8) inEV 0 rfl rfl 0 (by decide) xh_1_99 (v := .ref qc) rfl dEV_split_89 ?_
  refine x_callvD (ws' := [(h, .inr (5, [.ref qc, .ref qj, .ref qe, .ref qs, .ref qm, .int (nI n1), va_rf act, .int ctr])), (qm, .inl (cV, 8, .inr (.inr (.inr (.inr mk))))), (v0, .inr (4, [.int num, .ref v1, .ref v2, .int stt, .int sec, .int lk, .int th, .int sc, .int gset, .int gc])), (v1, .inl (cI, 9, .inl dg)), (v2, .inl (cI, 9, .inl gs)), (qj, .inr (2, [.ref j1, .ref j2, .ref j3, .ref j4, .int (nI c0)])), (j1, .inl (cI, 80, .inl ks)), (j2, .inl (cI, 80, .inl ns)), (j3, .inl (cI, 80, .inl ds)), (j4, .inl (cI, 80, .inl ss)), (qc, .inr (0, [.ref qr, .int (nI ((f + 4 * t1) % 64)), .int (nI n)])), (qr, .inl (cI, 64, .inl (tkR ring f (4 * t1)))), (qs, .inr (3, [.ref s1, .ref s2, .int (nI n0)])), (s1, .inl (cI, 9, .inl ((mkG (flF sh 0 9) C ring f t1 n0 sec 4).1))), (s2, .inl (cI, 8, .inl (flF (mkG (flF sh 0 9) C ring f t1 n0 sec 4).2 0 8)))]) hw [12, 13, 14, 10, 11] rfl rfl (x_runV (n := 4) (rest := []) (As := [.int sec, .int (nI (t1 + 1)), .int (nI n0), .ref qc]) S hw (k_make l D cI cZ cV qs s1 s2 qc qr sh C ring sec n9 t1 n0 f n (by omega) (by omega) hf _) xh_2_3 xh_2_0 xh_2_1 xh_2_2 xh_1_5 (by decide +kernel) ⟨by decide, by decide⟩ [12, 13, 14, 10, 11] rfl rfl (ci := 3) (q0 := 12) rfl rfl rfl hl.1 rfl (Nat.le_of_ble_eq_true rfl) dEV_split_92 ⟨by decide, by decide⟩) rfl rfl (fun H locs hw => ?_)
  refine lv_aload hx hb dEV_split_95 (lv_at hl 0 rfl) ?_
  refine lv_iload_n hx hb dEV_split_97 rfl (lv_at hl 3 rfl) ?_
  refine lv_iload_n hx hb dEV_split_98 rfl (lv_at hl 4 rfl) ?_
  refine lv_aload_n hx hb dEV_split_99 rfl (lv_at hl 1 rfl) ?_
  refine x_get S hw (C := REV) (T := TEV) (N := 8) inEV 0 rfl rfl 3 (by decide) xh_1_102 (v := .ref qs) rfl dEV_split_100 ?_
  refine x_callvD (ws' := [(h, .inr (5, [.ref qc, .ref qj, .ref qe, .ref qs, .ref qm, .int (nI n1), va_rf act, .int ctr])), (qm, .inl (cV, 8, .inr (.inr (.inr (.inr mk))))), (v0, .inr (4, [.int num, .ref v1, .ref v2, .int stt, .int sec, .int lk, .int (nI (t1 + 1)), .int (nI n0), .int gset, .int gc])), (v1, .inl (cI, 9, .inl (teF (flF dg 0 9) ((mkG (flF sh 0 9) C ring f t1 n0 sec 4).1) n0))), (v2, .inl (cI, 9, .inl gs)), (qj, .inr (2, [.ref j1, .ref j2, .ref j3, .ref j4, .int (nI c0)])), (j1, .inl (cI, 80, .inl ks)), (j2, .inl (cI, 80, .inl ns)), (j3, .inl (cI, 80, .inl ds)), (j4, .inl (cI, 80, .inl ss)), (qc, .inr (0, [.ref qr, .int (nI ((f + 4 * t1) % 64)), .int (nI n)])), (qr, .inl (cI, 64, .inl (tkR ring f (4 * t1)))), (qs, .inr (3, [.ref s1, .ref s2, .int (nI n0)])), (s1, .inl (cI, 9, .inl ((mkG (flF sh 0 9) C ring f t1 n0 sec 4).1))), (s2, .inl (cI, 8, .inl (flF (mkG (flF sh 0 9) C ring f t1 n0 sec 4).2 0 8)))]) hw [2, 3, 4, 12, 13, 14] rfl rfl (x_runV (n := 3) (rest := []) (As := [.int (nI (t1 + 1)), .int (nI n0), .ref qs]) S hw (k_takeEscrow l D cI cZ cV v0 v1 v2 dg gs num stt sec lk th sc gset gc qs s1 s2 ((mkG (flF sh 0 9) C ring f t1 n0 sec 4).1) (flF (mkG (flF sh 0 9) C ring f t1 n0 sec 4).2 0 8) (nI n0) (nI (t1 + 1)) n0 (by omega) _) xh_2_14 xh_2_11 xh_2_12 xh_2_13 xh_1_8 (by decide +kernel) ⟨by decide, by decide⟩ [2, 3, 4, 12, 13, 14] rfl rfl (ci := 4) (q0 := 2) rfl rfl rfl hl.1 rfl (Nat.le_of_ble_eq_true rfl) dEV_split_103 ⟨by decide, by decide⟩) rfl rfl (fun H locs hw => ?_)
  refine lv_aload_n hx hb dEV_split_106 rfl (lv_at hl 1 rfl) ?_
  refine x_get S hw (C := REV) (T := TEV) (N := 8) inEV 0 rfl rfl 1 (by decide) xh_1_100 (v := .ref qj) rfl dEV_split_107 ?_
  refine lv_iconst (v := 3) hx hb dEV_split_110 (by decide) ?_
  refine lv_iload_n hx hb dEV_split_111 rfl (lv_at hl 2 rfl) ?_
  refine lv_aload hx hb dEV_split_112 (lv_at hl 0 rfl) ?_
  refine x_calliD (ws' := [(h, .inr (5, [.ref qc, .ref qj, .ref qe, .ref qs, .ref qm, .int (nI n1), va_rf act, .int ctr])), (qm, .inl (cV, 8, .inr (.inr (.inr (.inr mk))))), (v0, .inr (4, [.int num, .ref v1, .ref v2, .int stt, .int sec, .int lk, .int (nI (t1 + 1)), .int (nI n0), .int gset, .int gc])), (v1, .inl (cI, 9, .inl (teF (flF dg 0 9) ((mkG (flF sh 0 9) C ring f t1 n0 sec 4).1) n0))), (v2, .inl (cI, 9, .inl gs)), (qj, .inr (2, [.ref j1, .ref j2, .ref j3, .ref j4, .int (nI c0)])), (j1, .inl (cI, 80, .inl ks)), (j2, .inl (cI, 80, .inl ns)), (j3, .inl (cI, 80, .inl ds)), (j4, .inl (cI, 80, .inl ss)), (qc, .inr (0, [.ref qr, .int (nI ((f + 4 * t1) % 64)), .int (nI n)])), (qr, .inl (cI, 64, .inl (tkR ring f (4 * t1)))), (qs, .inr (3, [.ref s1, .ref s2, .int (nI n0)])), (s1, .inl (cI, 9, .inl ((mkG (flF sh 0 9) C ring f t1 n0 sec 4).1))), (s2, .inl (cI, 8, .inl (flF (mkG (flF sh 0 9) C ring f t1 n0 sec 4).2 0 8)))]) hw [2, 3, 4] rfl rfl (x_runV (n := 0) (rest := [.int (nI k0), .int 3, .ref qj]) (As := []) S hw (k_escrow l D cI cZ cV v0 v1 v2 (teF (flF dg 0 9) ((mkG (flF sh 0 9) C ring f t1 n0 sec 4).1) n0) gs num stt sec lk (nI (t1 + 1)) (nI n0) gset gc _) xh_2_22 xh_2_19 xh_2_20 xh_2_21 xh_1_8 (by decide +kernel) ⟨by decide, by decide⟩ [2, 3, 4] rfl rfl (ci := 4) (q0 := 2) rfl rfl rfl hl.1 rfl (Nat.le_of_ble_eq_true rfl) dEV_split_114 ⟨by decide, by decide⟩) rfl rfl (fun H locs hw => ?_)
  refine x_callvD (ws' := [(h, .inr (5, [.ref qc, .ref qj, .ref qe, .ref qs, .ref qm, .int (nI n1), va_rf act, .int ctr])), (qm, .inl (cV, 8, .inr (.inr (.inr (.inr mk))))), (v0, .inr (4, [.int num, .ref v1, .ref v2, .int stt, .int sec, .int lk, .int (nI (t1 + 1)), .int (nI n0), .int gset, .int gc])), (v1, .inl (cI, 9, .inl (teF (flF dg 0 9) ((mkG (flF sh 0 9) C ring f t1 n0 sec 4).1) n0))), (v2, .inl (cI, 9, .inl gs)), (qj, .inr (2, [.ref j1, .ref j2, .ref j3, .ref j4, .int (nI (c0 + 1))])), (j1, .inl (cI, 80, .inl (upd ks c0 3))), (j2, .inl (cI, 80, .inl (upd ns c0 (nI k0)))), (j3, .inl (cI, 80, .inl (upd ds c0 (16 * (nI (t1 + 1)) + (nI n0))))), (j4, .inl (cI, 80, .inl (upd ss c0 (fMix (fMix (fMix (jBef ss c0) 3) (nI k0)) (16 * (nI (t1 + 1)) + (nI n0)))))), (qc, .inr (0, [.ref qr, .int (nI ((f + 4 * t1) % 64)), .int (nI n)])), (qr, .inl (cI, 64, .inl (tkR ring f (4 * t1)))), (qs, .inr (3, [.ref s1, .ref s2, .int (nI n0)])), (s1, .inl (cI, 9, .inl ((mkG (flF sh 0 9) C ring f t1 n0 sec 4).1))), (s2, .inl (cI, 8, .inl (flF (mkG (flF sh 0 9) C ring f t1 n0 sec 4).2 0 8)))]) hw [5, 6, 7, 8, 9] rfl rfl (x_runV (n := 3) (rest := []) (As := [.int 3, .int (nI k0), .int (16 * (nI (t1 + 1)) + (nI n0))]) S hw (k_write l D cI cZ cV qj j1 j2 j3 j4 ks ns ds ss c0 3 (nI k0) (16 * (nI (t1 + 1)) + (nI n0)) hc _) xh_1_208 xh_1_205 xh_1_206 xh_1_207 xh_1_3 (by decide +kernel) ⟨by decide, by decide⟩ [5, 6, 7, 8, 9] rfl rfl (ci := 2) (q0 := 5) rfl rfl rfl hl.1 rfl (Nat.le_of_ble_eq_true rfl) dEV_split_117 ⟨by decide, by decide⟩) rfl rfl (fun H locs hw => ?_)
  refine lv_iload_n hx hb dEV_split_120 rfl (lv_at hl 4 rfl) ?_
  exact x_iret S hr hlk hw (by decide) (by decide) (⟨rfl, rfl⟩) dEV_split_121

set_option maxHeartbeats 4000000 in
set_option maxRecDepth 100000 in
theorem f_sha_no (l : Launch) (D : va_G) (cI cZ cV : ClassId) (h : Nat) (qc : Nat) (qj : Nat) (qe : Nat) (qs : Nat) (qm : Nat) (mc : Int32) (ctr : Int32) (act : Option Nat) (s1 : Nat) (s2 : Nat) (sh : Nat → Int32) (C : Nat → Int32) (n9 : Int32) (i : Int32) (hv : i < 1 ∨ n9 < i) : XI l yEV_share cEV_share 2 (some .int) D (xT3 cI cZ cV) 0 0 0 [.ref h, .int i] [(h, .inr (5, [.ref qc, .ref qj, .ref qe, .ref qs, .ref qm, .int mc, va_rf act, .int ctr])), (qs, .inr (3, [.ref s1, .ref s2, .int n9])), (s1, .inl (cI, 9, .inl sh)), (s2, .inl (cI, 8, .inl C))] (fun r u => r = 0 ∧ u = [(h, .inr (5, [.ref qc, .ref qj, .ref qe, .ref qs, .ref qm, .int mc, va_rf act, .int ctr])), (qs, .inr (3, [.ref s1, .ref s2, .int n9])), (s1, .inl (cI, 9, .inl sh)), (s2, .inl (cI, 8, .inl C))]) := by
  intro sz
  refine x_ofW (Qc := fun A => va_Qi _ (xB D A) A) sz (by decide) (Nat.le_of_ble_eq_true rfl) ?_
  intro p e s m args below meth c A ls S hr hlk hnm hw hl
  obtain ⟨hx, hb, hml, hown, hts⟩ := id S
  have hl : lv_has ls 2 [(0, .ref h), (1, .int i)] := hl
  refine lv_iload_n hx hb dEV_share_0 rfl (lv_at hl 1 rfl) ?_
  refine lv_iconst (v := 1) hx hb dEV_share_1 (by decide) ?_
  refine lv_icmp_lt (tgt := 16) hx hb dEV_share_2 (by decide) (fun h2 => ?_) (fun h2 => ?_)
  · skip
    refine lv_iconst (v := 0) hx hb dEV_share_16 (by decide) ?_
    exact x_iret S hr hlk hw (by decide) (by decide) (⟨rfl, rfl⟩) dEV_share_17
  refine lv_iload_n hx hb dEV_share_5 rfl (lv_at hl 1 rfl) ?_
  refine lv_aload_n hx hb dEV_share_6 rfl (lv_at hl 0 rfl) ?_
  refine x_get S hw (C := REV) (T := TEV) (N := 8) inEV 0 rfl rfl 3 (by decide) xh_1_102 (v := .ref qs) rfl dEV_share_7 ?_
  refine x_getN S hw (C := RSP) (T := TSP) (N := 3) inSP 1 rfl rfl 2 (by decide) xh_1_89 (v := .int n9) rfl dEV_share_10 ?_
  refine lv_icmp_le (tgt := 18) hx hb dEV_share_13 (by decide) (fun h13 => ?_) (fun h13 => ?_)
  · skip
    exact False.elim (by rcases hv with h | h; exact h2 h; exact Int32.not_lt.mpr h13 h)
  refine lv_iconst (v := 0) hx hb dEV_share_16 (by decide) ?_
  exact x_iret S hr hlk hw (by decide) (by decide) (⟨rfl, rfl⟩) dEV_share_17

set_option maxHeartbeats 4000000 in
set_option maxRecDepth 100000 in
theorem f_sha_ok (l : Launch) (D : va_G) (cI cZ cV : ClassId) (h : Nat) (qc : Nat) (qj : Nat) (qe : Nat) (qs : Nat) (qm : Nat) (mc : Int32) (ctr : Int32) (act : Option Nat) (s1 : Nat) (s2 : Nat) (sh : Nat → Int32) (C : Nat → Int32) (n0 : Nat) (j : Nat) (hj : 1 ≤ j ∧ j ≤ n0 ∧ n0 ≤ 8) : XI l yEV_share cEV_share 2 (some .int) D (xT3 cI cZ cV) 0 0 0 [.ref h, .int (nI j)] [(h, .inr (5, [.ref qc, .ref qj, .ref qe, .ref qs, .ref qm, .int mc, va_rf act, .int ctr])), (qs, .inr (3, [.ref s1, .ref s2, .int (nI n0)])), (s1, .inl (cI, 9, .inl sh)), (s2, .inl (cI, 8, .inl C))] (fun r u => r = sh j ∧ u = [(h, .inr (5, [.ref qc, .ref qj, .ref qe, .ref qs, .ref qm, .int mc, va_rf act, .int ctr])), (qs, .inr (3, [.ref s1, .ref s2, .int (nI n0)])), (s1, .inl (cI, 9, .inl sh)), (s2, .inl (cI, 8, .inl C))]) := by
  intro sz
  refine x_ofW (Qc := fun A => va_Qi _ (xB D A) A) sz (by decide) (Nat.le_of_ble_eq_true rfl) ?_
  intro p e s m args below meth c A ls S hr hlk hnm hw hl
  obtain ⟨hx, hb, hml, hown, hts⟩ := id S
  have hl : lv_has ls 2 [(0, .ref h), (1, .int (nI j))] := hl
  refine lv_iload_n hx hb dEV_share_0 rfl (lv_at hl 1 rfl) ?_
  refine lv_iconst (v := 1) hx hb dEV_share_1 (by decide) ?_
  refine lv_icmp_lt (tgt := 16) hx hb dEV_share_2 (by decide) (fun h2 => absurd h2 (nI_nlt (b := 1) (by omega) (by omega))) (fun h2 => ?_)
  refine lv_iload_n hx hb dEV_share_5 rfl (lv_at hl 1 rfl) ?_
  refine lv_aload_n hx hb dEV_share_6 rfl (lv_at hl 0 rfl) ?_
  refine x_get S hw (C := REV) (T := TEV) (N := 8) inEV 0 rfl rfl 3 (by decide) xh_1_102 (v := .ref qs) rfl dEV_share_7 ?_
  refine x_getN S hw (C := RSP) (T := TSP) (N := 3) inSP 1 rfl rfl 2 (by decide) xh_1_89 (v := .int (nI n0)) rfl dEV_share_10 ?_
  refine lv_icmp_le (tgt := 18) hx hb dEV_share_13 (by decide) (fun h13 => ?_) (fun h13 => absurd (nI_le (by omega) (by omega)) h13)
  refine lv_aload_n hx hb dEV_share_18 rfl (lv_at hl 0 rfl) ?_
  refine x_get S hw (C := REV) (T := TEV) (N := 8) inEV 0 rfl rfl 3 (by decide) xh_1_102 (v := .ref qs) rfl dEV_share_19 ?_
  refine x_getN S hw (C := RSP) (T := TSP) (N := 3) inSP 1 rfl rfl 0 (by decide) xh_1_86 (v := .ref s1) rfl dEV_share_22 ?_
  refine lv_iload_n hx hb dEV_share_25 rfl (lv_at hl 1 rfl) ?_
  refine x_iald S hw 2 0 rfl rfl (j := j) (vp_in_nI (by omega) (by omega)) (nI_clamp (by omega)) dEV_share_26 ?_
  exact x_iret S hr hlk hw (by decide) (by decide) (⟨rfl, rfl⟩) dEV_share_27

set_option maxHeartbeats 4000000 in
set_option maxRecDepth 100000 in
theorem f_loc_no (l : Launch) (D : va_G) (cI cZ cV : ClassId) (h : Nat) (qc : Nat) (qj : Nat) (qe : Nat) (qs : Nat) (qm : Nat) (mc : Int32) (ctr : Int32) (act : Option Nat) (v : Int32) (hv : v < 0 ∨ mc ≤ v) : XI l yEV_lock cEV_lock 3 (some .int) D (xT3 cI cZ cV) 1 0 0 [.ref h, .int v] [(h, .inr (5, [.ref qc, .ref qj, .ref qe, .ref qs, .ref qm, .int mc, va_rf act, .int ctr]))] (fun r u => r = -1 ∧ u = [(h, .inr (5, [.ref qc, .ref qj, .ref qe, .ref qs, .ref qm, .int mc, va_rf act, .int ctr]))]) := by
  intro sz
  refine x_ofW (Qc := fun A => va_Qi _ (xB D A) A) sz (by decide) (Nat.le_of_ble_eq_true rfl) ?_
  intro p e s m args below meth c A ls S hr hlk hnm hw hl
  obtain ⟨hx, hb, hml, hown, hts⟩ := id S
  have hl : lv_has ls 3 [(0, .ref h), (1, .int v)] := hl
  refine lv_aload_n hx hb dEV_lock_0 rfl (lv_at hl 0 rfl) ?_
  refine lv_iload_n hx hb dEV_lock_1 rfl (lv_at hl 1 rfl) ?_
  refine x_callqD (ws' := [(h, .inr (5, [.ref qc, .ref qj, .ref qe, .ref qs, .ref qm, .int mc, va_rf act, .int ctr]))]) hw [0] rfl rfl (x_runV (n := 1) (rest := []) (As := [.int v]) S hw (k_find_no l D cI cZ cV h qc qj qe qs qm mc ctr act v hv _) xh_1_221 xh_1_218 xh_1_220 xsel_EV_find xh_1_1 (by decide +kernel) ⟨by decide, by decide⟩ [0] rfl rfl (ci := 5) (q0 := 0) rfl rfl rfl hl.1 rfl (Nat.le_of_ble_eq_true rfl) dEV_lock_2 ⟨by decide, by decide⟩) rfl rfl rfl (fun H locs hw => ?_)
  refine lv_astore_nN (lv' := [(2, .null), (0, .ref h), (1, .int v)]) hx hb dEV_lock_5 rfl hl (by decide) rfl (fun ls hl => ?_)
  refine lv_aload_nN hx hb dEV_lock_6 rfl (lv_at hl 0 rfl) ?_
  refine lv_ifnonnullN hx hb dEV_lock_7 ?_
  refine lv_iconst (v := (-1)) hx hb dEV_lock_10 (by decide) ?_
  exact x_iret S hr hlk hw (by decide) (by decide) (⟨rfl, rfl⟩) dEV_lock_11

set_option maxHeartbeats 4000000 in
set_option maxRecDepth 100000 in
theorem f_loc_gone (l : Launch) (D : va_G) (cI cZ cV : ClassId) (h : Nat) (qc : Nat) (qj : Nat) (qe : Nat) (qs : Nat) (qm : Nat) (ctr : Int32) (act : Option Nat) (n1 : Nat) (mk : Nat → Option Nat) (k0 : Nat) (v0 : Nat) (v1 : Nat) (v2 : Nat) (dg : Nat → Int32) (gs : Nat → Int32) (num : Int32) (stt : Int32) (sec : Int32) (lk : Int32) (th : Int32) (sc : Int32) (gset : Int32) (gc : Int32) (hm : mk k0 = some v0) (hk : k0 < n1 ∧ n1 ≤ 8) (hs : stt = 3) : XI l yEV_lock cEV_lock 3 (some .int) D (xT3 cI cZ cV) 1 0 0 [.ref h, .int (nI k0)] [(h, .inr (5, [.ref qc, .ref qj, .ref qe, .ref qs, .ref qm, .int (nI n1), va_rf act, .int ctr])), (qm, .inl (cV, 8, .inr (.inr (.inr (.inr mk))))), (v0, .inr (4, [.int num, .ref v1, .ref v2, .int stt, .int sec, .int lk, .int th, .int sc, .int gset, .int gc])), (v1, .inl (cI, 9, .inl dg)), (v2, .inl (cI, 9, .inl gs))] (fun r u => r = -6 ∧ u = [(h, .inr (5, [.ref qc, .ref qj, .ref qe, .ref qs, .ref qm, .int (nI n1), va_rf act, .int ctr])), (qm, .inl (cV, 8, .inr (.inr (.inr (.inr mk))))), (v0, .inr (4, [.int num, .ref v1, .ref v2, .int stt, .int sec, .int lk, .int th, .int sc, .int gset, .int gc])), (v1, .inl (cI, 9, .inl dg)), (v2, .inl (cI, 9, .inl gs))]) := by
  intro sz
  refine x_ofW (Qc := fun A => va_Qi _ (xB D A) A) sz (by decide) (Nat.le_of_ble_eq_true rfl) ?_
  intro p e s m args below meth c A ls S hr hlk hnm hw hl
  obtain ⟨hx, hb, hml, hown, hts⟩ := id S
  have hl : lv_has ls 3 [(0, .ref h), (1, .int (nI k0))] := hl
  refine lv_aload_n hx hb dEV_lock_0 rfl (lv_at hl 0 rfl) ?_
  refine lv_iload_n hx hb dEV_lock_1 rfl (lv_at hl 1 rfl) ?_
  refine x_callqD (ws' := [(h, .inr (5, [.ref qc, .ref qj, .ref qe, .ref qs, .ref qm, .int (nI n1), va_rf act, .int ctr])), (qm, .inl (cV, 8, .inr (.inr (.inr (.inr mk))))), (v0, .inr (4, [.int num, .ref v1, .ref v2, .int stt, .int sec, .int lk, .int th, .int sc, .int gset, .int gc])), (v1, .inl (cI, 9, .inl dg)), (v2, .inl (cI, 9, .inl gs))]) hw [0, 1] rfl rfl (x_runV (n := 1) (rest := []) (As := [.int (nI k0)]) S hw (k_find_ok l D cI cZ cV h qc qj qe qs qm ctr act n1 mk k0 v0 hm hk _) xh_1_221 xh_1_218 xh_1_220 xsel_EV_find xh_1_1 (by decide +kernel) ⟨by decide, by decide⟩ [0, 1] rfl rfl (ci := 5) (q0 := 0) rfl rfl rfl hl.1 rfl (Nat.le_of_ble_eq_true rfl) dEV_lock_2 ⟨by decide, by decide⟩) rfl rfl rfl (fun H locs hw => ?_)
  refine lv_astore_n (lv' := [(2, .ref v0), (0, .ref h), (1, .int (nI k0))]) hx hb dEV_lock_5 rfl hl (by decide) rfl (fun ls hl => ?_)
  refine lv_aload_n hx hb dEV_lock_6 rfl (lv_at hl 0 rfl) ?_
  refine lv_ifnonnull (tgt := 12) hx hb dEV_lock_7 (by decide) ?_
  refine lv_aload_n hx hb dEV_lock_12 rfl (lv_at hl 0 rfl) ?_
  refine x_getN S hw (C := RVE) (T := TVE) (N := 10) inVE 2 rfl rfl 3 (by decide) xh_1_172 (v := .int stt) rfl dEV_lock_13 ?_
  refine lv_iconst (v := 3) hx hb dEV_lock_16 (by decide) ?_
  refine lv_icmp_ne (tgt := 23) hx hb dEV_lock_17 (by decide) (fun h17 => absurd hs h17) (fun h17 => ?_)
  refine lv_bipush (v := (-6)) hx hb dEV_lock_20 (by decide) ?_
  exact x_iret S hr hlk hw (by decide) (by decide) (⟨rfl, rfl⟩) dEV_lock_22

set_option maxHeartbeats 4000000 in
set_option maxRecDepth 100000 in
theorem f_loc_lock (l : Launch) (D : va_G) (cI cZ cV : ClassId) (h : Nat) (qc : Nat) (qj : Nat) (qe : Nat) (qs : Nat) (qm : Nat) (ctr : Int32) (act : Option Nat) (n1 : Nat) (mk : Nat → Option Nat) (k0 : Nat) (v0 : Nat) (v1 : Nat) (v2 : Nat) (dg : Nat → Int32) (gs : Nat → Int32) (num : Int32) (stt : Int32) (sec : Int32) (lk : Int32) (th : Int32) (sc : Int32) (gset : Int32) (gc : Int32) (hm : mk k0 = some v0) (hk : k0 < n1 ∧ n1 ≤ 8) (hs : ¬ stt = 3) (hl9 : ¬ lk = 0) : XI l yEV_lock cEV_lock 3 (some .int) D (xT3 cI cZ cV) 1 0 0 [.ref h, .int (nI k0)] [(h, .inr (5, [.ref qc, .ref qj, .ref qe, .ref qs, .ref qm, .int (nI n1), va_rf act, .int ctr])), (qm, .inl (cV, 8, .inr (.inr (.inr (.inr mk))))), (v0, .inr (4, [.int num, .ref v1, .ref v2, .int stt, .int sec, .int lk, .int th, .int sc, .int gset, .int gc])), (v1, .inl (cI, 9, .inl dg)), (v2, .inl (cI, 9, .inl gs))] (fun r u => r = -7 ∧ u = [(h, .inr (5, [.ref qc, .ref qj, .ref qe, .ref qs, .ref qm, .int (nI n1), va_rf act, .int ctr])), (qm, .inl (cV, 8, .inr (.inr (.inr (.inr mk))))), (v0, .inr (4, [.int num, .ref v1, .ref v2, .int stt, .int sec, .int lk, .int th, .int sc, .int gset, .int gc])), (v1, .inl (cI, 9, .inl dg)), (v2, .inl (cI, 9, .inl gs))]) := by
  intro sz
  refine x_ofW (Qc := fun A => va_Qi _ (xB D A) A) sz (by decide) (Nat.le_of_ble_eq_true rfl) ?_
  intro p e s m args below meth c A ls S hr hlk hnm hw hl
  obtain ⟨hx, hb, hml, hown, hts⟩ := id S
  have hl : lv_has ls 3 [(0, .ref h), (1, .int (nI k0))] := hl
  refine lv_aload_n hx hb dEV_lock_0 rfl (lv_at hl 0 rfl) ?_
  refine lv_iload_n hx hb dEV_lock_1 rfl (lv_at hl 1 rfl) ?_
  refine x_callqD (ws' := [(h, .inr (5, [.ref qc, .ref qj, .ref qe, .ref qs, .ref qm, .int (nI n1), va_rf act, .int ctr])), (qm, .inl (cV, 8, .inr (.inr (.inr (.inr mk))))), (v0, .inr (4, [.int num, .ref v1, .ref v2, .int stt, .int sec, .int lk, .int th, .int sc, .int gset, .int gc])), (v1, .inl (cI, 9, .inl dg)), (v2, .inl (cI, 9, .inl gs))]) hw [0, 1] rfl rfl (x_runV (n := 1) (rest := []) (As := [.int (nI k0)]) S hw (k_find_ok l D cI cZ cV h qc qj qe qs qm ctr act n1 mk k0 v0 hm hk _) xh_1_221 xh_1_218 xh_1_220 xsel_EV_find xh_1_1 (by decide +kernel) ⟨by decide, by decide⟩ [0, 1] rfl rfl (ci := 5) (q0 := 0) rfl rfl rfl hl.1 rfl (Nat.le_of_ble_eq_true rfl) dEV_lock_2 ⟨by decide, by decide⟩) rfl rfl rfl (fun H locs hw => ?_)
  refine lv_astore_n (lv' := [(2, .ref v0), (0, .ref h), (1, .int (nI k0))]) hx hb dEV_lock_5 rfl hl (by decide) rfl (fun ls hl => ?_)
  refine lv_aload_n hx hb dEV_lock_6 rfl (lv_at hl 0 rfl) ?_
  refine lv_ifnonnull (tgt := 12) hx hb dEV_lock_7 (by decide) ?_
  refine lv_aload_n hx hb dEV_lock_12 rfl (lv_at hl 0 rfl) ?_
  refine x_getN S hw (C := RVE) (T := TVE) (N := 10) inVE 2 rfl rfl 3 (by decide) xh_1_172 (v := .int stt) rfl dEV_lock_13 ?_
  refine lv_iconst (v := 3) hx hb dEV_lock_16 (by decide) ?_
  refine lv_icmp_ne (tgt := 23) hx hb dEV_lock_17 (by decide) (fun h17 => ?_) (fun h17 => absurd h17 hs)
  refine lv_aload_n hx hb dEV_lock_23 rfl (lv_at hl 0 rfl) ?_
  refine x_getN S hw (C := RVE) (T := TVE) (N := 10) inVE 2 rfl rfl 5 (by decide) xh_1_176 (v := .int lk) rfl dEV_lock_24 ?_
  refine lv_if_eq (tgt := 33) hx hb dEV_lock_27 (by decide) (fun h27 => absurd h27 hl9) (fun h27 => ?_)
  refine lv_bipush (v := (-7)) hx hb dEV_lock_30 (by decide) ?_
  exact x_iret S hr hlk hw (by decide) (by decide) (⟨rfl, rfl⟩) dEV_lock_32

set_option maxHeartbeats 4000000 in
set_option maxRecDepth 100000 in
theorem f_loc_state (l : Launch) (D : va_G) (cI cZ cV : ClassId) (h : Nat) (qc : Nat) (qj : Nat) (qe : Nat) (qs : Nat) (qm : Nat) (ctr : Int32) (act : Option Nat) (n1 : Nat) (mk : Nat → Option Nat) (k0 : Nat) (v0 : Nat) (v1 : Nat) (v2 : Nat) (dg : Nat → Int32) (gs : Nat → Int32) (num : Int32) (stt : Int32) (sec : Int32) (lk : Int32) (th : Int32) (sc : Int32) (gset : Int32) (gc : Int32) (hm : mk k0 = some v0) (hk : k0 < n1 ∧ n1 ≤ 8) (hs : ¬ stt = 3) (hl9 : lk = 0) (ht : th = 0) : XI l yEV_lock cEV_lock 3 (some .int) D (xT3 cI cZ cV) 1 0 0 [.ref h, .int (nI k0)] [(h, .inr (5, [.ref qc, .ref qj, .ref qe, .ref qs, .ref qm, .int (nI n1), va_rf act, .int ctr])), (qm, .inl (cV, 8, .inr (.inr (.inr (.inr mk))))), (v0, .inr (4, [.int num, .ref v1, .ref v2, .int stt, .int sec, .int lk, .int th, .int sc, .int gset, .int gc])), (v1, .inl (cI, 9, .inl dg)), (v2, .inl (cI, 9, .inl gs))] (fun r u => r = -4 ∧ u = [(h, .inr (5, [.ref qc, .ref qj, .ref qe, .ref qs, .ref qm, .int (nI n1), va_rf act, .int ctr])), (qm, .inl (cV, 8, .inr (.inr (.inr (.inr mk))))), (v0, .inr (4, [.int num, .ref v1, .ref v2, .int stt, .int sec, .int lk, .int th, .int sc, .int gset, .int gc])), (v1, .inl (cI, 9, .inl dg)), (v2, .inl (cI, 9, .inl gs))]) := by
  intro sz
  refine x_ofW (Qc := fun A => va_Qi _ (xB D A) A) sz (by decide) (Nat.le_of_ble_eq_true rfl) ?_
  intro p e s m args below meth c A ls S hr hlk hnm hw hl
  obtain ⟨hx, hb, hml, hown, hts⟩ := id S
  have hl : lv_has ls 3 [(0, .ref h), (1, .int (nI k0))] := hl
  refine lv_aload_n hx hb dEV_lock_0 rfl (lv_at hl 0 rfl) ?_
  refine lv_iload_n hx hb dEV_lock_1 rfl (lv_at hl 1 rfl) ?_
  refine x_callqD (ws' := [(h, .inr (5, [.ref qc, .ref qj, .ref qe, .ref qs, .ref qm, .int (nI n1), va_rf act, .int ctr])), (qm, .inl (cV, 8, .inr (.inr (.inr (.inr mk))))), (v0, .inr (4, [.int num, .ref v1, .ref v2, .int stt, .int sec, .int lk, .int th, .int sc, .int gset, .int gc])), (v1, .inl (cI, 9, .inl dg)), (v2, .inl (cI, 9, .inl gs))]) hw [0, 1] rfl rfl (x_runV (n := 1) (rest := []) (As := [.int (nI k0)]) S hw (k_find_ok l D cI cZ cV h qc qj qe qs qm ctr act n1 mk k0 v0 hm hk _) xh_1_221 xh_1_218 xh_1_220 xsel_EV_find xh_1_1 (by decide +kernel) ⟨by decide, by decide⟩ [0, 1] rfl rfl (ci := 5) (q0 := 0) rfl rfl rfl hl.1 rfl (Nat.le_of_ble_eq_true rfl) dEV_lock_2 ⟨by decide, by decide⟩) rfl rfl rfl (fun H locs hw => ?_)
  refine lv_astore_n (lv' := [(2, .ref v0), (0, .ref h), (1, .int (nI k0))]) hx hb dEV_lock_5 rfl hl (by decide) rfl (fun ls hl => ?_)
  refine lv_aload_n hx hb dEV_lock_6 rfl (lv_at hl 0 rfl) ?_
  refine lv_ifnonnull (tgt := 12) hx hb dEV_lock_7 (by decide) ?_
  refine lv_aload_n hx hb dEV_lock_12 rfl (lv_at hl 0 rfl) ?_
  refine x_getN S hw (C := RVE) (T := TVE) (N := 10) inVE 2 rfl rfl 3 (by decide) xh_1_172 (v := .int stt) rfl dEV_lock_13 ?_
  refine lv_iconst (v := 3) hx hb dEV_lock_16 (by decide) ?_
  refine lv_icmp_ne (tgt := 23) hx hb dEV_lock_17 (by decide) (fun h17 => ?_) (fun h17 => absurd h17 hs)
  refine lv_aload_n hx hb dEV_lock_23 rfl (lv_at hl 0 rfl) ?_
  refine x_getN S hw (C := RVE) (T := TVE) (N := 10) inVE 2 rfl rfl 5 (by decide) xh_1_176 (v := .int lk) rfl dEV_lock_24 ?_
  refine lv_if_eq (tgt := 33) hx hb dEV_lock_27 (by decide) (fun h27 => ?_) (fun h27 => absurd hl9 h27)
  refine lv_aload_n hx hb dEV_lock_33 rfl (lv_at hl 0 rfl) ?_
  refine x_getN S hw (C := RVE) (T := TVE) (N := 10) inVE 2 rfl rfl 6 (by decide) xh_1_178 (v := .int th) rfl dEV_lock_34 ?_
  refine lv_if_ne (tgt := 43) hx hb dEV_lock_37 (by decide) (fun h37 => absurd ht h37) (fun h37 => ?_)
  refine lv_bipush (v := (-4)) hx hb dEV_lock_40 (by decide) ?_
  exact x_iret S hr hlk hw (by decide) (by decide) (⟨rfl, rfl⟩) dEV_lock_42

set_option maxHeartbeats 4000000 in
set_option maxRecDepth 100000 in
theorem f_loc_full (l : Launch) (D : va_G) (cI cZ cV : ClassId) (h : Nat) (qc : Nat) (qj : Nat) (qe : Nat) (qs : Nat) (qm : Nat) (ctr : Int32) (act : Option Nat) (n1 : Nat) (mk : Nat → Option Nat) (k0 : Nat) (v0 : Nat) (v1 : Nat) (v2 : Nat) (dg : Nat → Int32) (gs : Nat → Int32) (num : Int32) (stt : Int32) (sec : Int32) (lk : Int32) (th : Int32) (sc : Int32) (gset : Int32) (gc : Int32) (j1 : Nat) (j2 : Nat) (j3 : Nat) (j4 : Nat) (ks : Nat → Int32) (ns : Nat → Int32) (ds : Nat → Int32) (ss : Nat → Int32) (c0 : Nat) (hm : mk k0 = some v0) (hk : k0 < n1 ∧ n1 ≤ 8) (hs : ¬ stt = 3) (hl9 : lk = 0) (ht : ¬ th = 0) (hc : c0 = 80) : XI l yEV_lock cEV_lock 3 (some .int) D (xT3 cI cZ cV) 1 0 0 [.ref h, .int (nI k0)] [(h, .inr (5, [.ref qc, .ref qj, .ref qe, .ref qs, .ref qm, .int (nI n1), va_rf act, .int ctr])), (qm, .inl (cV, 8, .inr (.inr (.inr (.inr mk))))), (v0, .inr (4, [.int num, .ref v1, .ref v2, .int stt, .int sec, .int lk, .int th, .int sc, .int gset, .int gc])), (v1, .inl (cI, 9, .inl dg)), (v2, .inl (cI, 9, .inl gs)), (qj, .inr (2, [.ref j1, .ref j2, .ref j3, .ref j4, .int (nI c0)])), (j1, .inl (cI, 80, .inl ks)), (j2, .inl (cI, 80, .inl ns)), (j3, .inl (cI, 80, .inl ds)), (j4, .inl (cI, 80, .inl ss))] (fun r u => r = -2 ∧ u = [(h, .inr (5, [.ref qc, .ref qj, .ref qe, .ref qs, .ref qm, .int (nI n1), va_rf act, .int ctr])), (qm, .inl (cV, 8, .inr (.inr (.inr (.inr mk))))), (v0, .inr (4, [.int num, .ref v1, .ref v2, .int stt, .int sec, .int lk, .int th, .int sc, .int gset, .int gc])), (v1, .inl (cI, 9, .inl dg)), (v2, .inl (cI, 9, .inl gs)), (qj, .inr (2, [.ref j1, .ref j2, .ref j3, .ref j4, .int (nI c0)])), (j1, .inl (cI, 80, .inl ks)), (j2, .inl (cI, 80, .inl ns)), (j3, .inl (cI, 80, .inl ds)), (j4, .inl (cI, 80, .inl ss))]) := by
  intro sz
  refine x_ofW (Qc := fun A => va_Qi _ (xB D A) A) sz (by decide) (Nat.le_of_ble_eq_true rfl) ?_
  intro p e s m args below meth c A ls S hr hlk hnm hw hl
  obtain ⟨hx, hb, hml, hown, hts⟩ := id S
  have hl : lv_has ls 3 [(0, .ref h), (1, .int (nI k0))] := hl
  refine lv_aload_n hx hb dEV_lock_0 rfl (lv_at hl 0 rfl) ?_
  refine lv_iload_n hx hb dEV_lock_1 rfl (lv_at hl 1 rfl) ?_
  refine x_callqD (ws' := [(h, .inr (5, [.ref qc, .ref qj, .ref qe, .ref qs, .ref qm, .int (nI n1), va_rf act, .int ctr])), (qm, .inl (cV, 8, .inr (.inr (.inr (.inr mk))))), (v0, .inr (4, [.int num, .ref v1, .ref v2, .int stt, .int sec, .int lk, .int th, .int sc, .int gset, .int gc])), (v1, .inl (cI, 9, .inl dg)), (v2, .inl (cI, 9, .inl gs)), (qj, .inr (2, [.ref j1, .ref j2, .ref j3, .ref j4, .int (nI c0)])), (j1, .inl (cI, 80, .inl ks)), (j2, .inl (cI, 80, .inl ns)), (j3, .inl (cI, 80, .inl ds)), (j4, .inl (cI, 80, .inl ss))]) hw [0, 1] rfl rfl (x_runV (n := 1) (rest := []) (As := [.int (nI k0)]) S hw (k_find_ok l D cI cZ cV h qc qj qe qs qm ctr act n1 mk k0 v0 hm hk _) xh_1_221 xh_1_218 xh_1_220 xsel_EV_find xh_1_1 (by decide +kernel) ⟨by decide, by decide⟩ [0, 1] rfl rfl (ci := 5) (q0 := 0) rfl rfl rfl hl.1 rfl (Nat.le_of_ble_eq_true rfl) dEV_lock_2 ⟨by decide, by decide⟩) rfl rfl rfl (fun H locs hw => ?_)
  refine lv_astore_n (lv' := [(2, .ref v0), (0, .ref h), (1, .int (nI k0))]) hx hb dEV_lock_5 rfl hl (by decide) rfl (fun ls hl => ?_)
  refine lv_aload_n hx hb dEV_lock_6 rfl (lv_at hl 0 rfl) ?_
  refine lv_ifnonnull (tgt := 12) hx hb dEV_lock_7 (by decide) ?_
  refine lv_aload_n hx hb dEV_lock_12 rfl (lv_at hl 0 rfl) ?_
  refine x_getN S hw (C := RVE) (T := TVE) (N := 10) inVE 2 rfl rfl 3 (by decide) xh_1_172 (v := .int stt) rfl dEV_lock_13 ?_
  refine lv_iconst (v := 3) hx hb dEV_lock_16 (by decide) ?_
  refine lv_icmp_ne (tgt := 23) hx hb dEV_lock_17 (by decide) (fun h17 => ?_) (fun h17 => absurd h17 hs)
  refine lv_aload_n hx hb dEV_lock_23 rfl (lv_at hl 0 rfl) ?_
  refine x_getN S hw (C := RVE) (T := TVE) (N := 10) inVE 2 rfl rfl 5 (by decide) xh_1_176 (v := .int lk) rfl dEV_lock_24 ?_
  refine lv_if_eq (tgt := 33) hx hb dEV_lock_27 (by decide) (fun h27 => ?_) (fun h27 => absurd hl9 h27)
  refine lv_aload_n hx hb dEV_lock_33 rfl (lv_at hl 0 rfl) ?_
  refine x_getN S hw (C := RVE) (T := TVE) (N := 10) inVE 2 rfl rfl 6 (by decide) xh_1_178 (v := .int th) rfl dEV_lock_34 ?_
  refine lv_if_ne (tgt := 43) hx hb dEV_lock_37 (by decide) (fun h37 => ?_) (fun h37 => absurd h37 ht)
  refine lv_aload_n hx hb dEV_lock_43 rfl (lv_at hl 1 rfl) ?_
  refine x_get S hw (C := REV) (T := TEV) (N := 8) inEV 0 rfl rfl 1 (by decide) xh_1_100 (v := .ref qj) rfl dEV_lock_44 ?_
  refine lv_iconst (v := 1) hx hb dEV_lock_47 (by decide) ?_
  refine x_calliD (ws' := [(h, .inr (5, [.ref qc, .ref qj, .ref qe, .ref qs, .ref qm, .int (nI n1), va_rf act, .int ctr])), (qm, .inl (cV, 8, .inr (.inr (.inr (.inr mk))))), (v0, .inr (4, [.int num, .ref v1, .ref v2, .int stt, .int sec, .int lk, .int th, .int sc, .int gset, .int gc])), (v1, .inl (cI, 9, .inl dg)), (v2, .inl (cI, 9, .inl gs)), (qj, .inr (2, [.ref j1, .ref j2, .ref j3, .ref j4, .int (nI c0)])), (j1, .inl (cI, 80, .inl ks)), (j2, .inl (cI, 80, .inl ns)), (j3, .inl (cI, 80, .inl ds)), (j4, .inl (cI, 80, .inl ss))]) hw [5, 6, 7, 8, 9] rfl rfl (x_runV (n := 1) (rest := []) (As := [.int 1]) S hw (k_room_n l D cI cZ cV qj j1 j2 j3 j4 ks ns ds ss c0 1 (by omega) (by omega) _) xh_1_153 xh_1_150 xh_1_151 xh_1_152 xh_1_3 (by decide +kernel) ⟨by decide, by decide⟩ [5, 6, 7, 8, 9] rfl rfl (ci := 2) (q0 := 5) rfl rfl rfl hl.1 rfl (Nat.le_of_ble_eq_true rfl) dEV_lock_48 ⟨by decide, by decide⟩) rfl rfl (fun H locs hw => ?_)
  refine lv_if_ne (tgt := 57) hx hb dEV_lock_51 (by decide) (fun h51 => absurd rfl h51) (fun h51 => ?_)
  refine lv_bipush (v := (-2)) hx hb dEV_lock_54 (by decide) ?_
  exact x_iret S hr hlk hw (by decide) (by decide) (⟨rfl, rfl⟩) dEV_lock_56

set_option maxHeartbeats 4000000 in
set_option maxRecDepth 100000 in
theorem f_loc_ok (l : Launch) (D : va_G) (cI cZ cV : ClassId) (h : Nat) (qc : Nat) (qj : Nat) (qe : Nat) (qs : Nat) (qm : Nat) (ctr : Int32) (act : Option Nat) (n1 : Nat) (mk : Nat → Option Nat) (k0 : Nat) (v0 : Nat) (v1 : Nat) (v2 : Nat) (dg : Nat → Int32) (gs : Nat → Int32) (num : Int32) (stt : Int32) (sec : Int32) (lk : Int32) (th : Int32) (sc : Int32) (gset : Int32) (gc : Int32) (j1 : Nat) (j2 : Nat) (j3 : Nat) (j4 : Nat) (ks : Nat → Int32) (ns : Nat → Int32) (ds : Nat → Int32) (ss : Nat → Int32) (c0 : Nat) (hm : mk k0 = some v0) (hk : k0 < n1 ∧ n1 ≤ 8) (hs : ¬ stt = 3) (hl9 : lk = 0) (ht : ¬ th = 0) (hc : c0 < 80) : XI l yEV_lock cEV_lock 3 (some .int) D (xT3 cI cZ cV) 3 0 0 [.ref h, .int (nI k0)] [(h, .inr (5, [.ref qc, .ref qj, .ref qe, .ref qs, .ref qm, .int (nI n1), va_rf act, .int ctr])), (qm, .inl (cV, 8, .inr (.inr (.inr (.inr mk))))), (v0, .inr (4, [.int num, .ref v1, .ref v2, .int stt, .int sec, .int lk, .int th, .int sc, .int gset, .int gc])), (v1, .inl (cI, 9, .inl dg)), (v2, .inl (cI, 9, .inl gs)), (qj, .inr (2, [.ref j1, .ref j2, .ref j3, .ref j4, .int (nI c0)])), (j1, .inl (cI, 80, .inl ks)), (j2, .inl (cI, 80, .inl ns)), (j3, .inl (cI, 80, .inl ds)), (j4, .inl (cI, 80, .inl ss))] (fun r u => r = th ∧ u = [(h, .inr (5, [.ref qc, .ref qj, .ref qe, .ref qs, .ref qm, .int (nI n1), va_rf act, .int ctr])), (qm, .inl (cV, 8, .inr (.inr (.inr (.inr mk))))), (v0, .inr (4, [.int num, .ref v1, .ref v2, .int stt, .int 0, .int 1, .int th, .int sc, .int 0, .int 0])), (v1, .inl (cI, 9, .inl dg)), (v2, .inl (cI, 9, .inl (flF gs 0 9))), (qj, .inr (2, [.ref j1, .ref j2, .ref j3, .ref j4, .int (nI (c0 + 1))])), (j1, .inl (cI, 80, .inl (upd ks c0 (4)))), (j2, .inl (cI, 80, .inl (upd ns c0 (nI k0)))), (j3, .inl (cI, 80, .inl (upd ds c0 (0)))), (j4, .inl (cI, 80, .inl (upd ss c0 (fMix (fMix (fMix (jBef ss c0) (4)) (nI k0)) (0)))))]) := by
  intro sz
  refine x_ofW (Qc := fun A => va_Qi _ (xB D A) A) sz (by decide) (Nat.le_of_ble_eq_true rfl) ?_
  intro p e s m args below meth c A ls S hr hlk hnm hw hl
  obtain ⟨hx, hb, hml, hown, hts⟩ := id S
  have hl : lv_has ls 3 [(0, .ref h), (1, .int (nI k0))] := hl
  refine lv_aload_n hx hb dEV_lock_0 rfl (lv_at hl 0 rfl) ?_
  refine lv_iload_n hx hb dEV_lock_1 rfl (lv_at hl 1 rfl) ?_
  refine x_callqD (ws' := [(h, .inr (5, [.ref qc, .ref qj, .ref qe, .ref qs, .ref qm, .int (nI n1), va_rf act, .int ctr])), (qm, .inl (cV, 8, .inr (.inr (.inr (.inr mk))))), (v0, .inr (4, [.int num, .ref v1, .ref v2, .int stt, .int sec, .int lk, .int th, .int sc, .int gset, .int gc])), (v1, .inl (cI, 9, .inl dg)), (v2, .inl (cI, 9, .inl gs)), (qj, .inr (2, [.ref j1, .ref j2, .ref j3, .ref j4, .int (nI c0)])), (j1, .inl (cI, 80, .inl ks)), (j2, .inl (cI, 80, .inl ns)), (j3, .inl (cI, 80, .inl ds)), (j4, .inl (cI, 80, .inl ss))]) hw [0, 1] rfl rfl (x_runV (n := 1) (rest := []) (As := [.int (nI k0)]) S hw (k_find_ok l D cI cZ cV h qc qj qe qs qm ctr act n1 mk k0 v0 hm hk _) xh_1_221 xh_1_218 xh_1_220 xsel_EV_find xh_1_1 (by decide +kernel) ⟨by decide, by decide⟩ [0, 1] rfl rfl (ci := 5) (q0 := 0) rfl rfl rfl hl.1 rfl (Nat.le_of_ble_eq_true rfl) dEV_lock_2 ⟨by decide, by decide⟩) rfl rfl rfl (fun H locs hw => ?_)
  refine lv_astore_n (lv' := [(2, .ref v0), (0, .ref h), (1, .int (nI k0))]) hx hb dEV_lock_5 rfl hl (by decide) rfl (fun ls hl => ?_)
  refine lv_aload_n hx hb dEV_lock_6 rfl (lv_at hl 0 rfl) ?_
  refine lv_ifnonnull (tgt := 12) hx hb dEV_lock_7 (by decide) ?_
  refine lv_aload_n hx hb dEV_lock_12 rfl (lv_at hl 0 rfl) ?_
  refine x_getN S hw (C := RVE) (T := TVE) (N := 10) inVE 2 rfl rfl 3 (by decide) xh_1_172 (v := .int stt) rfl dEV_lock_13 ?_
  refine lv_iconst (v := 3) hx hb dEV_lock_16 (by decide) ?_
  refine lv_icmp_ne (tgt := 23) hx hb dEV_lock_17 (by decide) (fun h17 => ?_) (fun h17 => absurd h17 hs)
  refine lv_aload_n hx hb dEV_lock_23 rfl (lv_at hl 0 rfl) ?_
  refine x_getN S hw (C := RVE) (T := TVE) (N := 10) inVE 2 rfl rfl 5 (by decide) xh_1_176 (v := .int lk) rfl dEV_lock_24 ?_
  refine lv_if_eq (tgt := 33) hx hb dEV_lock_27 (by decide) (fun h27 => ?_) (fun h27 => absurd hl9 h27)
  refine lv_aload_n hx hb dEV_lock_33 rfl (lv_at hl 0 rfl) ?_
  refine x_getN S hw (C := RVE) (T := TVE) (N := 10) inVE 2 rfl rfl 6 (by decide) xh_1_178 (v := .int th) rfl dEV_lock_34 ?_
  refine lv_if_ne (tgt := 43) hx hb dEV_lock_37 (by decide) (fun h37 => ?_) (fun h37 => absurd h37 ht)
  refine lv_aload_n hx hb dEV_lock_43 rfl (lv_at hl 1 rfl) ?_
  refine x_get S hw (C := REV) (T := TEV) (N := 8) inEV 0 rfl rfl 1 (by decide) xh_1_100 (v := .ref qj) rfl dEV_lock_44 ?_
  refine lv_iconst (v := 1) hx hb dEV_lock_47 (by decide) ?_
  refine x_calliD (ws' := [(h, .inr (5, [.ref qc, .ref qj, .ref qe, .ref qs, .ref qm, .int (nI n1), va_rf act, .int ctr])), (qm, .inl (cV, 8, .inr (.inr (.inr (.inr mk))))), (v0, .inr (4, [.int num, .ref v1, .ref v2, .int stt, .int sec, .int lk, .int th, .int sc, .int gset, .int gc])), (v1, .inl (cI, 9, .inl dg)), (v2, .inl (cI, 9, .inl gs)), (qj, .inr (2, [.ref j1, .ref j2, .ref j3, .ref j4, .int (nI c0)])), (j1, .inl (cI, 80, .inl ks)), (j2, .inl (cI, 80, .inl ns)), (j3, .inl (cI, 80, .inl ds)), (j4, .inl (cI, 80, .inl ss))]) hw [5, 6, 7, 8, 9] rfl rfl (x_runV (n := 1) (rest := []) (As := [.int 1]) S hw (k_room_y l D cI cZ cV qj j1 j2 j3 j4 ks ns ds ss c0 1 (by omega) _) xh_1_153 xh_1_150 xh_1_151 xh_1_152 xh_1_3 (by decide +kernel) ⟨by decide, by decide⟩ [5, 6, 7, 8, 9] rfl rfl (ci := 2) (q0 := 5) rfl rfl rfl hl.1 rfl (Nat.le_of_ble_eq_true rfl) dEV_lock_48 ⟨by decide, by decide⟩) rfl rfl (fun H locs hw => ?_)
  refine lv_if_ne (tgt := 57) hx hb dEV_lock_51 (by decide) (fun h51 => ?_) (fun h51 => absurd h51 (by decide))
  refine lv_aload_n hx hb dEV_lock_57 rfl (lv_at hl 0 rfl) ?_
  refine x_callvD (ws' := [(h, .inr (5, [.ref qc, .ref qj, .ref qe, .ref qs, .ref qm, .int (nI n1), va_rf act, .int ctr])), (qm, .inl (cV, 8, .inr (.inr (.inr (.inr mk))))), (v0, .inr (4, [.int num, .ref v1, .ref v2, .int stt, .int 0, .int 1, .int th, .int sc, .int 0, .int 0])), (v1, .inl (cI, 9, .inl dg)), (v2, .inl (cI, 9, .inl (flF gs 0 9))), (qj, .inr (2, [.ref j1, .ref j2, .ref j3, .ref j4, .int (nI c0)])), (j1, .inl (cI, 80, .inl ks)), (j2, .inl (cI, 80, .inl ns)), (j3, .inl (cI, 80, .inl ds)), (j4, .inl (cI, 80, .inl ss))]) hw [2, 3, 4] rfl rfl (x_runV (n := 0) (rest := []) (As := []) S hw (k_close l D cI cZ cV v0 v1 v2 dg gs num stt sec lk th sc gset gc _) xh_2_34 xh_2_31 xh_2_32 xh_2_33 xh_1_8 (by decide +kernel) ⟨by decide, by decide⟩ [2, 3, 4] rfl rfl (ci := 4) (q0 := 2) rfl rfl rfl hl.1 rfl (Nat.le_of_ble_eq_true rfl) dEV_lock_58 ⟨by decide, by decide⟩) rfl rfl (fun H locs hw => ?_)
  refine lv_aload_n hx hb dEV_lock_61 rfl (lv_at hl 1 rfl) ?_
  refine x_get S hw (C := REV) (T := TEV) (N := 8) inEV 0 rfl rfl 1 (by decide) xh_1_100 (v := .ref qj) rfl dEV_lock_62 ?_
  refine lv_iconst (v := 4) hx hb dEV_lock_65 (by decide) ?_
  refine lv_iload_n hx hb dEV_lock_66 rfl (lv_at hl 2 rfl) ?_
  refine lv_iconst (v := 0) hx hb dEV_lock_67 (by decide) ?_
  refine x_callvD (ws' := [(h, .inr (5, [.ref qc, .ref qj, .ref qe, .ref qs, .ref qm, .int (nI n1), va_rf act, .int ctr])), (qm, .inl (cV, 8, .inr (.inr (.inr (.inr mk))))), (v0, .inr (4, [.int num, .ref v1, .ref v2, .int stt, .int 0, .int 1, .int th, .int sc, .int 0, .int 0])), (v1, .inl (cI, 9, .inl dg)), (v2, .inl (cI, 9, .inl (flF gs 0 9))), (qj, .inr (2, [.ref j1, .ref j2, .ref j3, .ref j4, .int (nI (c0 + 1))])), (j1, .inl (cI, 80, .inl (upd ks c0 4))), (j2, .inl (cI, 80, .inl (upd ns c0 (nI k0)))), (j3, .inl (cI, 80, .inl (upd ds c0 0))), (j4, .inl (cI, 80, .inl (upd ss c0 (fMix (fMix (fMix (jBef ss c0) 4) (nI k0)) 0))))]) hw [5, 6, 7, 8, 9] rfl rfl (x_runV (n := 3) (rest := []) (As := [.int 4, .int (nI k0), .int 0]) S hw (k_write l D cI cZ cV qj j1 j2 j3 j4 ks ns ds ss c0 4 (nI k0) 0 hc _) xh_1_208 xh_1_205 xh_1_206 xh_1_207 xh_1_3 (by decide +kernel) ⟨by decide, by decide⟩ [5, 6, 7, 8, 9] rfl rfl (ci := 2) (q0 := 5) rfl rfl rfl hl.1 rfl (Nat.le_of_ble_eq_true rfl) dEV_lock_68 ⟨by decide, by decide⟩) rfl rfl (fun H locs hw => ?_)
  refine lv_aload_n hx hb dEV_lock_71 rfl (lv_at hl 0 rfl) ?_
  refine x_getN S hw (C := RVE) (T := TVE) (N := 10) inVE 2 rfl rfl 6 (by decide) xh_1_178 (v := .int th) rfl dEV_lock_72 ?_
  exact x_iret S hr hlk hw (by decide) (by decide) (⟨rfl, rfl⟩) dEV_lock_75

set_option maxHeartbeats 4000000 in
set_option maxRecDepth 100000 in
theorem f_giv_no (l : Launch) (D : va_G) (cI cZ cV : ClassId) (h : Nat) (qc : Nat) (qj : Nat) (qe : Nat) (qs : Nat) (qm : Nat) (mc : Int32) (ctr : Int32) (act : Option Nat) (v : Int32) (i : Int32) (x : Int32) (hv : v < 0 ∨ mc ≤ v) : XI l yEV_give cEV_give 6 (some .int) D (xT3 cI cZ cV) 1 0 0 [.ref h, .int v, .int i, .int x] [(h, .inr (5, [.ref qc, .ref qj, .ref qe, .ref qs, .ref qm, .int mc, va_rf act, .int ctr]))] (fun r u => r = -1 ∧ u = [(h, .inr (5, [.ref qc, .ref qj, .ref qe, .ref qs, .ref qm, .int mc, va_rf act, .int ctr]))]) := by
  intro sz
  refine x_ofW (Qc := fun A => va_Qi _ (xB D A) A) sz (by decide) (Nat.le_of_ble_eq_true rfl) ?_
  intro p e s m args below meth c A ls S hr hlk hnm hw hl
  obtain ⟨hx, hb, hml, hown, hts⟩ := id S
  have hl : lv_has ls 6 [(0, .ref h), (1, .int v), (2, .int i), (3, .int x)] := hl
  refine lv_aload_n hx hb dEV_give_0 rfl (lv_at hl 0 rfl) ?_
  refine lv_iload_n hx hb dEV_give_1 rfl (lv_at hl 1 rfl) ?_
  refine x_callqD (ws' := [(h, .inr (5, [.ref qc, .ref qj, .ref qe, .ref qs, .ref qm, .int mc, va_rf act, .int ctr]))]) hw [0] rfl rfl (x_runV (n := 1) (rest := []) (As := [.int v]) S hw (k_find_no l D cI cZ cV h qc qj qe qs qm mc ctr act v hv _) xh_1_221 xh_1_218 xh_1_220 xsel_EV_find xh_1_1 (by decide +kernel) ⟨by decide, by decide⟩ [0] rfl rfl (ci := 5) (q0 := 0) rfl rfl rfl hl.1 rfl (Nat.le_of_ble_eq_true rfl) dEV_give_2 ⟨by decide, by decide⟩) rfl rfl rfl (fun H locs hw => ?_)
  refine lv_astoreN (lv' := [(4, .null), (0, .ref h), (1, .int v), (2, .int i), (3, .int x)]) hx hb dEV_give_5 hl (by decide) rfl (fun ls hl => ?_)
  refine lv_aloadN hx hb dEV_give_7 (lv_at hl 0 rfl) ?_
  refine lv_ifnonnullN hx hb dEV_give_9 ?_
  refine lv_iconst (v := (-1)) hx hb dEV_give_12 (by decide) ?_
  exact x_iret S hr hlk hw (by decide) (by decide) (⟨rfl, rfl⟩) dEV_give_13

set_option maxHeartbeats 4000000 in
set_option maxRecDepth 100000 in
theorem f_giv_gone (l : Launch) (D : va_G) (cI cZ cV : ClassId) (h : Nat) (qc : Nat) (qj : Nat) (qe : Nat) (qs : Nat) (qm : Nat) (ctr : Int32) (act : Option Nat) (n1 : Nat) (mk : Nat → Option Nat) (k0 : Nat) (v0 : Nat) (v1 : Nat) (v2 : Nat) (dg : Nat → Int32) (gs : Nat → Int32) (num : Int32) (stt : Int32) (sec : Int32) (lk : Int32) (th : Int32) (sc : Int32) (gset : Int32) (gc : Int32) (i : Int32) (x : Int32) (hm : mk k0 = some v0) (hk : k0 < n1 ∧ n1 ≤ 8) (hs : stt = 3) : XI l yEV_give cEV_give 6 (some .int) D (xT3 cI cZ cV) 1 0 0 [.ref h, .int (nI k0), .int i, .int x] [(h, .inr (5, [.ref qc, .ref qj, .ref qe, .ref qs, .ref qm, .int (nI n1), va_rf act, .int ctr])), (qm, .inl (cV, 8, .inr (.inr (.inr (.inr mk))))), (v0, .inr (4, [.int num, .ref v1, .ref v2, .int stt, .int sec, .int lk, .int th, .int sc, .int gset, .int gc])), (v1, .inl (cI, 9, .inl dg)), (v2, .inl (cI, 9, .inl gs))] (fun r u => r = -6 ∧ u = [(h, .inr (5, [.ref qc, .ref qj, .ref qe, .ref qs, .ref qm, .int (nI n1), va_rf act, .int ctr])), (qm, .inl (cV, 8, .inr (.inr (.inr (.inr mk))))), (v0, .inr (4, [.int num, .ref v1, .ref v2, .int stt, .int sec, .int lk, .int th, .int sc, .int gset, .int gc])), (v1, .inl (cI, 9, .inl dg)), (v2, .inl (cI, 9, .inl gs))]) := by
  intro sz
  refine x_ofW (Qc := fun A => va_Qi _ (xB D A) A) sz (by decide) (Nat.le_of_ble_eq_true rfl) ?_
  intro p e s m args below meth c A ls S hr hlk hnm hw hl
  obtain ⟨hx, hb, hml, hown, hts⟩ := id S
  have hl : lv_has ls 6 [(0, .ref h), (1, .int (nI k0)), (2, .int i), (3, .int x)] := hl
  refine lv_aload_n hx hb dEV_give_0 rfl (lv_at hl 0 rfl) ?_
  refine lv_iload_n hx hb dEV_give_1 rfl (lv_at hl 1 rfl) ?_
  refine x_callqD (ws' := [(h, .inr (5, [.ref qc, .ref qj, .ref qe, .ref qs, .ref qm, .int (nI n1), va_rf act, .int ctr])), (qm, .inl (cV, 8, .inr (.inr (.inr (.inr mk))))), (v0, .inr (4, [.int num, .ref v1, .ref v2, .int stt, .int sec, .int lk, .int th, .int sc, .int gset, .int gc])), (v1, .inl (cI, 9, .inl dg)), (v2, .inl (cI, 9, .inl gs))]) hw [0, 1] rfl rfl (x_runV (n := 1) (rest := []) (As := [.int (nI k0)]) S hw (k_find_ok l D cI cZ cV h qc qj qe qs qm ctr act n1 mk k0 v0 hm hk _) xh_1_221 xh_1_218 xh_1_220 xsel_EV_find xh_1_1 (by decide +kernel) ⟨by decide, by decide⟩ [0, 1] rfl rfl (ci := 5) (q0 := 0) rfl rfl rfl hl.1 rfl (Nat.le_of_ble_eq_true rfl) dEV_give_2 ⟨by decide, by decide⟩) rfl rfl rfl (fun H locs hw => ?_)
  refine lv_astore (lv' := [(4, .ref v0), (0, .ref h), (1, .int (nI k0)), (2, .int i), (3, .int x)]) hx hb dEV_give_5 hl (by decide) rfl (fun ls hl => ?_)
  refine lv_aload hx hb dEV_give_7 (lv_at hl 0 rfl) ?_
  refine lv_ifnonnull (tgt := 14) hx hb dEV_give_9 (by decide) ?_
  refine lv_aload hx hb dEV_give_14 (lv_at hl 0 rfl) ?_
  refine x_getN S hw (C := RVE) (T := TVE) (N := 10) inVE 2 rfl rfl 3 (by decide) xh_1_172 (v := .int stt) rfl dEV_give_16 ?_
  refine lv_iconst (v := 3) hx hb dEV_give_19 (by decide) ?_
  refine lv_icmp_ne (tgt := 26) hx hb dEV_give_20 (by decide) (fun h20 => absurd hs h20) (fun h20 => ?_)
  refine lv_bipush (v := (-6)) hx hb dEV_give_23 (by decide) ?_
  exact x_iret S hr hlk hw (by decide) (by decide) (⟨rfl, rfl⟩) dEV_give_25

set_option maxHeartbeats 4000000 in
set_option maxRecDepth 100000 in
theorem f_giv_state (l : Launch) (D : va_G) (cI cZ cV : ClassId) (h : Nat) (qc : Nat) (qj : Nat) (qe : Nat) (qs : Nat) (qm : Nat) (ctr : Int32) (act : Option Nat) (n1 : Nat) (mk : Nat → Option Nat) (k0 : Nat) (v0 : Nat) (v1 : Nat) (v2 : Nat) (dg : Nat → Int32) (gs : Nat → Int32) (num : Int32) (stt : Int32) (sec : Int32) (lk : Int32) (th : Int32) (sc : Int32) (gset : Int32) (gc : Int32) (i : Int32) (x : Int32) (hm : mk k0 = some v0) (hk : k0 < n1 ∧ n1 ≤ 8) (hs : ¬ stt = 3) (hl9 : lk = 0) : XI l yEV_give cEV_give 6 (some .int) D (xT3 cI cZ cV) 1 0 0 [.ref h, .int (nI k0), .int i, .int x] [(h, .inr (5, [.ref qc, .ref qj, .ref qe, .ref qs, .ref qm, .int (nI n1), va_rf act, .int ctr])), (qm, .inl (cV, 8, .inr (.inr (.inr (.inr mk))))), (v0, .inr (4, [.int num, .ref v1, .ref v2, .int stt, .int sec, .int lk, .int th, .int sc, .int gset, .int gc])), (v1, .inl (cI, 9, .inl dg)), (v2, .inl (cI, 9, .inl gs))] (fun r u => r = -4 ∧ u = [(h, .inr (5, [.ref qc, .ref qj, .ref qe, .ref qs, .ref qm, .int (nI n1), va_rf act, .int ctr])), (qm, .inl (cV, 8, .inr (.inr (.inr (.inr mk))))), (v0, .inr (4, [.int num, .ref v1, .ref v2, .int stt, .int sec, .int lk, .int th, .int sc, .int gset, .int gc])), (v1, .inl (cI, 9, .inl dg)), (v2, .inl (cI, 9, .inl gs))]) := by
  intro sz
  refine x_ofW (Qc := fun A => va_Qi _ (xB D A) A) sz (by decide) (Nat.le_of_ble_eq_true rfl) ?_
  intro p e s m args below meth c A ls S hr hlk hnm hw hl
  obtain ⟨hx, hb, hml, hown, hts⟩ := id S
  have hl : lv_has ls 6 [(0, .ref h), (1, .int (nI k0)), (2, .int i), (3, .int x)] := hl
  refine lv_aload_n hx hb dEV_give_0 rfl (lv_at hl 0 rfl) ?_
  refine lv_iload_n hx hb dEV_give_1 rfl (lv_at hl 1 rfl) ?_
  refine x_callqD (ws' := [(h, .inr (5, [.ref qc, .ref qj, .ref qe, .ref qs, .ref qm, .int (nI n1), va_rf act, .int ctr])), (qm, .inl (cV, 8, .inr (.inr (.inr (.inr mk))))), (v0, .inr (4, [.int num, .ref v1, .ref v2, .int stt, .int sec, .int lk, .int th, .int sc, .int gset, .int gc])), (v1, .inl (cI, 9, .inl dg)), (v2, .inl (cI, 9, .inl gs))]) hw [0, 1] rfl rfl (x_runV (n := 1) (rest := []) (As := [.int (nI k0)]) S hw (k_find_ok l D cI cZ cV h qc qj qe qs qm ctr act n1 mk k0 v0 hm hk _) xh_1_221 xh_1_218 xh_1_220 xsel_EV_find xh_1_1 (by decide +kernel) ⟨by decide, by decide⟩ [0, 1] rfl rfl (ci := 5) (q0 := 0) rfl rfl rfl hl.1 rfl (Nat.le_of_ble_eq_true rfl) dEV_give_2 ⟨by decide, by decide⟩) rfl rfl rfl (fun H locs hw => ?_)
  refine lv_astore (lv' := [(4, .ref v0), (0, .ref h), (1, .int (nI k0)), (2, .int i), (3, .int x)]) hx hb dEV_give_5 hl (by decide) rfl (fun ls hl => ?_)
  refine lv_aload hx hb dEV_give_7 (lv_at hl 0 rfl) ?_
  refine lv_ifnonnull (tgt := 14) hx hb dEV_give_9 (by decide) ?_
  refine lv_aload hx hb dEV_give_14 (lv_at hl 0 rfl) ?_
  refine x_getN S hw (C := RVE) (T := TVE) (N := 10) inVE 2 rfl rfl 3 (by decide) xh_1_172 (v := .int stt) rfl dEV_give_16 ?_
  refine lv_iconst (v := 3) hx hb dEV_give_19 (by decide) ?_
  refine lv_icmp_ne (tgt := 26) hx hb dEV_give_20 (by decide) (fun h20 => ?_) (fun h20 => absurd h20 hs)
  refine lv_aload hx hb dEV_give_26 (lv_at hl 0 rfl) ?_
  refine x_getN S hw (C := RVE) (T := TVE) (N := 10) inVE 2 rfl rfl 5 (by decide) xh_1_176 (v := .int lk) rfl dEV_give_28 ?_
  refine lv_if_ne (tgt := 37) hx hb dEV_give_31 (by decide) (fun h31 => absurd hl9 h31) (fun h31 => ?_)
  refine lv_bipush (v := (-4)) hx hb dEV_give_34 (by decide) ?_
  exact x_iret S hr hlk hw (by decide) (by decide) (⟨rfl, rfl⟩) dEV_give_36

set_option maxHeartbeats 4000000 in
set_option maxRecDepth 100000 in
theorem f_giv_out (l : Launch) (D : va_G) (cI cZ cV : ClassId) (h : Nat) (qc : Nat) (qj : Nat) (qe : Nat) (qs : Nat) (qm : Nat) (ctr : Int32) (act : Option Nat) (n1 : Nat) (mk : Nat → Option Nat) (k0 : Nat) (v0 : Nat) (v1 : Nat) (v2 : Nat) (dg : Nat → Int32) (gs : Nat → Int32) (num : Int32) (stt : Int32) (sec : Int32) (lk : Int32) (th : Int32) (sc : Int32) (gset : Int32) (gc : Int32) (i : Int32) (x : Int32) (hm : mk k0 = some v0) (hk : k0 < n1 ∧ n1 ≤ 8) (hs : ¬ stt = 3) (hl9 : ¬ lk = 0) (hi : i < 1 ∨ sc < i) : XI l yEV_give cEV_give 6 (some .int) D (xT3 cI cZ cV) 3 0 0 [.ref h, .int (nI k0), .int i, .int x] [(h, .inr (5, [.ref qc, .ref qj, .ref qe, .ref qs, .ref qm, .int (nI n1), va_rf act, .int ctr])), (qm, .inl (cV, 8, .inr (.inr (.inr (.inr mk))))), (v0, .inr (4, [.int num, .ref v1, .ref v2, .int stt, .int sec, .int lk, .int th, .int sc, .int gset, .int gc])), (v1, .inl (cI, 9, .inl dg)), (v2, .inl (cI, 9, .inl gs))] (fun r u => r = -8 ∧ u = [(h, .inr (5, [.ref qc, .ref qj, .ref qe, .ref qs, .ref qm, .int (nI n1), va_rf act, .int ctr])), (qm, .inl (cV, 8, .inr (.inr (.inr (.inr mk))))), (v0, .inr (4, [.int num, .ref v1, .ref v2, .int stt, .int sec, .int lk, .int th, .int sc, .int gset, .int gc])), (v1, .inl (cI, 9, .inl dg)), (v2, .inl (cI, 9, .inl gs))]) := by
  intro sz
  refine x_ofW (Qc := fun A => va_Qi _ (xB D A) A) sz (by decide) (Nat.le_of_ble_eq_true rfl) ?_
  intro p e s m args below meth c A ls S hr hlk hnm hw hl
  obtain ⟨hx, hb, hml, hown, hts⟩ := id S
  have hl : lv_has ls 6 [(0, .ref h), (1, .int (nI k0)), (2, .int i), (3, .int x)] := hl
  refine lv_aload_n hx hb dEV_give_0 rfl (lv_at hl 0 rfl) ?_
  refine lv_iload_n hx hb dEV_give_1 rfl (lv_at hl 1 rfl) ?_
  refine x_callqD (ws' := [(h, .inr (5, [.ref qc, .ref qj, .ref qe, .ref qs, .ref qm, .int (nI n1), va_rf act, .int ctr])), (qm, .inl (cV, 8, .inr (.inr (.inr (.inr mk))))), (v0, .inr (4, [.int num, .ref v1, .ref v2, .int stt, .int sec, .int lk, .int th, .int sc, .int gset, .int gc])), (v1, .inl (cI, 9, .inl dg)), (v2, .inl (cI, 9, .inl gs))]) hw [0, 1] rfl rfl (x_runV (n := 1) (rest := []) (As := [.int (nI k0)]) S hw (k_find_ok l D cI cZ cV h qc qj qe qs qm ctr act n1 mk k0 v0 hm hk _) xh_1_221 xh_1_218 xh_1_220 xsel_EV_find xh_1_1 (by decide +kernel) ⟨by decide, by decide⟩ [0, 1] rfl rfl (ci := 5) (q0 := 0) rfl rfl rfl hl.1 rfl (Nat.le_of_ble_eq_true rfl) dEV_give_2 ⟨by decide, by decide⟩) rfl rfl rfl (fun H locs hw => ?_)
  refine lv_astore (lv' := [(4, .ref v0), (0, .ref h), (1, .int (nI k0)), (2, .int i), (3, .int x)]) hx hb dEV_give_5 hl (by decide) rfl (fun ls hl => ?_)
  refine lv_aload hx hb dEV_give_7 (lv_at hl 0 rfl) ?_
  refine lv_ifnonnull (tgt := 14) hx hb dEV_give_9 (by decide) ?_
  refine lv_aload hx hb dEV_give_14 (lv_at hl 0 rfl) ?_
  refine x_getN S hw (C := RVE) (T := TVE) (N := 10) inVE 2 rfl rfl 3 (by decide) xh_1_172 (v := .int stt) rfl dEV_give_16 ?_
  refine lv_iconst (v := 3) hx hb dEV_give_19 (by decide) ?_
  refine lv_icmp_ne (tgt := 26) hx hb dEV_give_20 (by decide) (fun h20 => ?_) (fun h20 => absurd h20 hs)
  refine lv_aload hx hb dEV_give_26 (lv_at hl 0 rfl) ?_
  refine x_getN S hw (C := RVE) (T := TVE) (N := 10) inVE 2 rfl rfl 5 (by decide) xh_1_176 (v := .int lk) rfl dEV_give_28 ?_
  refine lv_if_ne (tgt := 37) hx hb dEV_give_31 (by decide) (fun h31 => ?_) (fun h31 => absurd h31 hl9)
  refine lv_aload hx hb dEV_give_37 (lv_at hl 0 rfl) ?_
  refine lv_iload_n hx hb dEV_give_39 rfl (lv_at hl 3 rfl) ?_
  refine lv_iload_n hx hb dEV_give_40 rfl (lv_at hl 4 rfl) ?_
  refine x_calliD (ws' := [(h, .inr (5, [.ref qc, .ref qj, .ref qe, .ref qs, .ref qm, .int (nI n1), va_rf act, .int ctr])), (qm, .inl (cV, 8, .inr (.inr (.inr (.inr mk))))), (v0, .inr (4, [.int num, .ref v1, .ref v2, .int stt, .int sec, .int lk, .int th, .int sc, .int gset, .int gc])), (v1, .inl (cI, 9, .inl dg)), (v2, .inl (cI, 9, .inl gs))]) hw [2, 3, 4] rfl rfl (x_runV (n := 2) (rest := []) (As := [.int i, .int x]) S hw (k_fits_out l D cI cZ cV v0 v1 v2 dg gs num stt sec lk th sc gset gc i x hi _) xh_2_42 xh_2_39 xh_2_40 xh_2_41 xh_1_8 (by decide +kernel) ⟨by decide, by decide⟩ [2, 3, 4] rfl rfl (ci := 4) (q0 := 2) rfl rfl rfl hl.1 rfl (Nat.le_of_ble_eq_true rfl) dEV_give_41 ⟨by decide, by decide⟩) rfl rfl (fun H locs hw => ?_)
  refine lv_if_ne (tgt := 50) hx hb dEV_give_44 (by decide) (fun h44 => absurd rfl h44) (fun h44 => ?_)
  refine lv_bipush (v := (-8)) hx hb dEV_give_47 (by decide) ?_
  exact x_iret S hr hlk hw (by decide) (by decide) (⟨rfl, rfl⟩) dEV_give_49

set_option maxHeartbeats 4000000 in
set_option maxRecDepth 100000 in
theorem f_giv_forg (l : Launch) (D : va_G) (cI cZ cV : ClassId) (h : Nat) (qc : Nat) (qj : Nat) (qe : Nat) (qs : Nat) (qm : Nat) (ctr : Int32) (act : Option Nat) (n1 : Nat) (mk : Nat → Option Nat) (k0 : Nat) (v0 : Nat) (v1 : Nat) (v2 : Nat) (dg : Nat → Int32) (gs : Nat → Int32) (num : Int32) (stt : Int32) (sec : Int32) (lk : Int32) (th : Int32) (sc : Int32) (gset : Int32) (gc : Int32) (j : Nat) (x : Int32) (hm : mk k0 = some v0) (hk : k0 < n1 ∧ n1 ≤ 8) (hs : ¬ stt = 3) (hl9 : ¬ lk = 0) (hj : 1 ≤ j ∧ j ≤ 8) (hsc : ¬ sc < nI j) (hd : ¬ dg j = fDig (nI j) x) : XI l yEV_give cEV_give 6 (some .int) D (xT3 cI cZ cV) 3 0 0 [.ref h, .int (nI k0), .int (nI j), .int x] [(h, .inr (5, [.ref qc, .ref qj, .ref qe, .ref qs, .ref qm, .int (nI n1), va_rf act, .int ctr])), (qm, .inl (cV, 8, .inr (.inr (.inr (.inr mk))))), (v0, .inr (4, [.int num, .ref v1, .ref v2, .int stt, .int sec, .int lk, .int th, .int sc, .int gset, .int gc])), (v1, .inl (cI, 9, .inl dg)), (v2, .inl (cI, 9, .inl gs))] (fun r u => r = -8 ∧ u = [(h, .inr (5, [.ref qc, .ref qj, .ref qe, .ref qs, .ref qm, .int (nI n1), va_rf act, .int ctr])), (qm, .inl (cV, 8, .inr (.inr (.inr (.inr mk))))), (v0, .inr (4, [.int num, .ref v1, .ref v2, .int stt, .int sec, .int lk, .int th, .int sc, .int gset, .int gc])), (v1, .inl (cI, 9, .inl dg)), (v2, .inl (cI, 9, .inl gs))]) := by
  intro sz
  refine x_ofW (Qc := fun A => va_Qi _ (xB D A) A) sz (by decide) (Nat.le_of_ble_eq_true rfl) ?_
  intro p e s m args below meth c A ls S hr hlk hnm hw hl
  obtain ⟨hx, hb, hml, hown, hts⟩ := id S
  have hl : lv_has ls 6 [(0, .ref h), (1, .int (nI k0)), (2, .int (nI j)), (3, .int x)] := hl
  refine lv_aload_n hx hb dEV_give_0 rfl (lv_at hl 0 rfl) ?_
  refine lv_iload_n hx hb dEV_give_1 rfl (lv_at hl 1 rfl) ?_
  refine x_callqD (ws' := [(h, .inr (5, [.ref qc, .ref qj, .ref qe, .ref qs, .ref qm, .int (nI n1), va_rf act, .int ctr])), (qm, .inl (cV, 8, .inr (.inr (.inr (.inr mk))))), (v0, .inr (4, [.int num, .ref v1, .ref v2, .int stt, .int sec, .int lk, .int th, .int sc, .int gset, .int gc])), (v1, .inl (cI, 9, .inl dg)), (v2, .inl (cI, 9, .inl gs))]) hw [0, 1] rfl rfl (x_runV (n := 1) (rest := []) (As := [.int (nI k0)]) S hw (k_find_ok l D cI cZ cV h qc qj qe qs qm ctr act n1 mk k0 v0 hm hk _) xh_1_221 xh_1_218 xh_1_220 xsel_EV_find xh_1_1 (by decide +kernel) ⟨by decide, by decide⟩ [0, 1] rfl rfl (ci := 5) (q0 := 0) rfl rfl rfl hl.1 rfl (Nat.le_of_ble_eq_true rfl) dEV_give_2 ⟨by decide, by decide⟩) rfl rfl rfl (fun H locs hw => ?_)
  refine lv_astore (lv' := [(4, .ref v0), (0, .ref h), (1, .int (nI k0)), (2, .int (nI j)), (3, .int x)]) hx hb dEV_give_5 hl (by decide) rfl (fun ls hl => ?_)
  refine lv_aload hx hb dEV_give_7 (lv_at hl 0 rfl) ?_
  refine lv_ifnonnull (tgt := 14) hx hb dEV_give_9 (by decide) ?_
  refine lv_aload hx hb dEV_give_14 (lv_at hl 0 rfl) ?_
  refine x_getN S hw (C := RVE) (T := TVE) (N := 10) inVE 2 rfl rfl 3 (by decide) xh_1_172 (v := .int stt) rfl dEV_give_16 ?_
  refine lv_iconst (v := 3) hx hb dEV_give_19 (by decide) ?_
  refine lv_icmp_ne (tgt := 26) hx hb dEV_give_20 (by decide) (fun h20 => ?_) (fun h20 => absurd h20 hs)
  refine lv_aload hx hb dEV_give_26 (lv_at hl 0 rfl) ?_
  refine x_getN S hw (C := RVE) (T := TVE) (N := 10) inVE 2 rfl rfl 5 (by decide) xh_1_176 (v := .int lk) rfl dEV_give_28 ?_
  refine lv_if_ne (tgt := 37) hx hb dEV_give_31 (by decide) (fun h31 => ?_) (fun h31 => absurd h31 hl9)
  refine lv_aload hx hb dEV_give_37 (lv_at hl 0 rfl) ?_
  refine lv_iload_n hx hb dEV_give_39 rfl (lv_at hl 3 rfl) ?_
  refine lv_iload_n hx hb dEV_give_40 rfl (lv_at hl 4 rfl) ?_
  refine x_calliD (ws' := [(h, .inr (5, [.ref qc, .ref qj, .ref qe, .ref qs, .ref qm, .int (nI n1), va_rf act, .int ctr])), (qm, .inl (cV, 8, .inr (.inr (.inr (.inr mk))))), (v0, .inr (4, [.int num, .ref v1, .ref v2, .int stt, .int sec, .int lk, .int th, .int sc, .int gset, .int gc])), (v1, .inl (cI, 9, .inl dg)), (v2, .inl (cI, 9, .inl gs))]) hw [2, 3, 4] rfl rfl (x_runV (n := 2) (rest := []) (As := [.int (nI j), .int x]) S hw (k_fits_no l D cI cZ cV v0 v1 v2 dg gs num stt sec lk th sc gset gc j x hj hsc hd _) xh_2_42 xh_2_39 xh_2_40 xh_2_41 xh_1_8 (by decide +kernel) ⟨by decide, by decide⟩ [2, 3, 4] rfl rfl (ci := 4) (q0 := 2) rfl rfl rfl hl.1 rfl (Nat.le_of_ble_eq_true rfl) dEV_give_41 ⟨by decide, by decide⟩) rfl rfl (fun H locs hw => ?_)
  refine lv_if_ne (tgt := 50) hx hb dEV_give_44 (by decide) (fun h44 => absurd rfl h44) (fun h44 => ?_)
  refine lv_bipush (v := (-8)) hx hb dEV_give_47 (by decide) ?_
  exact x_iret S hr hlk hw (by decide) (by decide) (⟨rfl, rfl⟩) dEV_give_49

set_option maxHeartbeats 4000000 in
set_option maxRecDepth 100000 in
theorem f_giv_have (l : Launch) (D : va_G) (cI cZ cV : ClassId) (h : Nat) (qc : Nat) (qj : Nat) (qe : Nat) (qs : Nat) (qm : Nat) (ctr : Int32) (act : Option Nat) (n1 : Nat) (mk : Nat → Option Nat) (k0 : Nat) (v0 : Nat) (v1 : Nat) (v2 : Nat) (dg : Nat → Int32) (gs : Nat → Int32) (num : Int32) (stt : Int32) (sec : Int32) (lk : Int32) (sc : Int32) (G0 : Nat) (g0 : Nat) (d0 : Nat) (j : Nat) (x : Int32) (hm : mk k0 = some v0) (hk : k0 < n1 ∧ n1 ≤ 8) (hs : ¬ stt = 3) (hl9 : ¬ lk = 0) (hj : 1 ≤ j ∧ j ≤ 8) (hsc : ¬ sc < nI j) (hd : dg j = fDig (nI j) x) (hg : ¬ fGiv (nI G0) (nI j) = 0) : XI l yEV_give cEV_give 6 (some .int) D (xT3 cI cZ cV) 3 0 0 [.ref h, .int (nI k0), .int (nI j), .int x] [(h, .inr (5, [.ref qc, .ref qj, .ref qe, .ref qs, .ref qm, .int (nI n1), va_rf act, .int ctr])), (qm, .inl (cV, 8, .inr (.inr (.inr (.inr mk))))), (v0, .inr (4, [.int num, .ref v1, .ref v2, .int stt, .int sec, .int lk, .int (nI (g0 + d0 + 1)), .int sc, .int (nI G0), .int (nI g0)])), (v1, .inl (cI, 9, .inl dg)), (v2, .inl (cI, 9, .inl gs))] (fun r u => r = nI (d0 + 1) ∧ u = [(h, .inr (5, [.ref qc, .ref qj, .ref qe, .ref qs, .ref qm, .int (nI n1), va_rf act, .int ctr])), (qm, .inl (cV, 8, .inr (.inr (.inr (.inr mk))))), (v0, .inr (4, [.int num, .ref v1, .ref v2, .int stt, .int sec, .int lk, .int (nI (g0 + d0 + 1)), .int sc, .int (nI G0), .int (nI g0)])), (v1, .inl (cI, 9, .inl dg)), (v2, .inl (cI, 9, .inl gs))]) := by
  intro sz
  refine x_ofW (Qc := fun A => va_Qi _ (xB D A) A) sz (by decide) (Nat.le_of_ble_eq_true rfl) ?_
  intro p e s m args below meth c A ls S hr hlk hnm hw hl
  obtain ⟨hx, hb, hml, hown, hts⟩ := id S
  have hl : lv_has ls 6 [(0, .ref h), (1, .int (nI k0)), (2, .int (nI j)), (3, .int x)] := hl
  refine lv_aload_n hx hb dEV_give_0 rfl (lv_at hl 0 rfl) ?_
  refine lv_iload_n hx hb dEV_give_1 rfl (lv_at hl 1 rfl) ?_
  refine x_callqD (ws' := [(h, .inr (5, [.ref qc, .ref qj, .ref qe, .ref qs, .ref qm, .int (nI n1), va_rf act, .int ctr])), (qm, .inl (cV, 8, .inr (.inr (.inr (.inr mk))))), (v0, .inr (4, [.int num, .ref v1, .ref v2, .int stt, .int sec, .int lk, .int (nI (g0 + d0 + 1)), .int sc, .int (nI G0), .int (nI g0)])), (v1, .inl (cI, 9, .inl dg)), (v2, .inl (cI, 9, .inl gs))]) hw [0, 1] rfl rfl (x_runV (n := 1) (rest := []) (As := [.int (nI k0)]) S hw (k_find_ok l D cI cZ cV h qc qj qe qs qm ctr act n1 mk k0 v0 hm hk _) xh_1_221 xh_1_218 xh_1_220 xsel_EV_find xh_1_1 (by decide +kernel) ⟨by decide, by decide⟩ [0, 1] rfl rfl (ci := 5) (q0 := 0) rfl rfl rfl hl.1 rfl (Nat.le_of_ble_eq_true rfl) dEV_give_2 ⟨by decide, by decide⟩) rfl rfl rfl (fun H locs hw => ?_)
  refine lv_astore (lv' := [(4, .ref v0), (0, .ref h), (1, .int (nI k0)), (2, .int (nI j)), (3, .int x)]) hx hb dEV_give_5 hl (by decide) rfl (fun ls hl => ?_)
  refine lv_aload hx hb dEV_give_7 (lv_at hl 0 rfl) ?_
  refine lv_ifnonnull (tgt := 14) hx hb dEV_give_9 (by decide) ?_
  refine lv_aload hx hb dEV_give_14 (lv_at hl 0 rfl) ?_
  refine x_getN S hw (C := RVE) (T := TVE) (N := 10) inVE 2 rfl rfl 3 (by decide) xh_1_172 (v := .int stt) rfl dEV_give_16 ?_
  refine lv_iconst (v := 3) hx hb dEV_give_19 (by decide) ?_
  refine lv_icmp_ne (tgt := 26) hx hb dEV_give_20 (by decide) (fun h20 => ?_) (fun h20 => absurd h20 hs)
  refine lv_aload hx hb dEV_give_26 (lv_at hl 0 rfl) ?_
  refine x_getN S hw (C := RVE) (T := TVE) (N := 10) inVE 2 rfl rfl 5 (by decide) xh_1_176 (v := .int lk) rfl dEV_give_28 ?_
  refine lv_if_ne (tgt := 37) hx hb dEV_give_31 (by decide) (fun h31 => ?_) (fun h31 => absurd h31 hl9)
  refine lv_aload hx hb dEV_give_37 (lv_at hl 0 rfl) ?_
  refine lv_iload_n hx hb dEV_give_39 rfl (lv_at hl 3 rfl) ?_
  refine lv_iload_n hx hb dEV_give_40 rfl (lv_at hl 4 rfl) ?_
  refine x_calliD (ws' := [(h, .inr (5, [.ref qc, .ref qj, .ref qe, .ref qs, .ref qm, .int (nI n1), va_rf act, .int ctr])), (qm, .inl (cV, 8, .inr (.inr (.inr (.inr mk))))), (v0, .inr (4, [.int num, .ref v1, .ref v2, .int stt, .int sec, .int lk, .int (nI (g0 + d0 + 1)), .int sc, .int (nI G0), .int (nI g0)])), (v1, .inl (cI, 9, .inl dg)), (v2, .inl (cI, 9, .inl gs))]) hw [2, 3, 4] rfl rfl (x_runV (n := 2) (rest := []) (As := [.int (nI j), .int x]) S hw (k_fits_ok l D cI cZ cV v0 v1 v2 dg gs num stt sec lk (nI (g0 + d0 + 1)) sc (nI G0) (nI g0) j x hj hsc hd _) xh_2_42 xh_2_39 xh_2_40 xh_2_41 xh_1_8 (by decide +kernel) ⟨by decide, by decide⟩ [2, 3, 4] rfl rfl (ci := 4) (q0 := 2) rfl rfl rfl hl.1 rfl (Nat.le_of_ble_eq_true rfl) dEV_give_41 ⟨by decide, by decide⟩) rfl rfl (fun H locs hw => ?_)
  refine lv_if_ne (tgt := 50) hx hb dEV_give_44 (by decide) (fun h44 => ?_) (fun h44 => absurd h44 (by decide))
  refine lv_aload hx hb dEV_give_50 (lv_at hl 0 rfl) ?_
  refine x_getN S hw (C := RVE) (T := TVE) (N := 10) inVE 2 rfl rfl 6 (by decide) xh_1_178 (v := .int (nI (g0 + d0 + 1))) rfl dEV_give_52 ?_
  refine lv_aload hx hb dEV_give_55 (lv_at hl 0 rfl) ?_
  refine x_getN S hw (C := RVE) (T := TVE) (N := 10) inVE 2 rfl rfl 9 (by decide) xh_1_183 (v := .int (nI g0)) rfl dEV_give_57 ?_
  refine lv_isub hx hb dEV_give_60 ?_
  refine x_topi (y := nI (d0 + 1)) (by rw [pk_sub (by omega), show g0 + d0 + 1 - g0 = d0 + 1 by omega]) ?_
  refine lv_istore (lv' := [(5, .int (nI (d0 + 1))), (4, .ref v0), (0, .ref h), (1, .int (nI k0)), (2, .int (nI j)), (3, .int x)]) hx hb dEV_give_61 hl (by decide) rfl (fun ls hl => ?_)
  refine lv_aload hx hb dEV_give_63 (lv_at hl 1 rfl) ?_
  refine lv_iload_n hx hb dEV_give_65 rfl (lv_at hl 4 rfl) ?_
  refine x_calliD (ws' := [(h, .inr (5, [.ref qc, .ref qj, .ref qe, .ref qs, .ref qm, .int (nI n1), va_rf act, .int ctr])), (qm, .inl (cV, 8, .inr (.inr (.inr (.inr mk))))), (v0, .inr (4, [.int num, .ref v1, .ref v2, .int stt, .int sec, .int lk, .int (nI (g0 + d0 + 1)), .int sc, .int (nI G0), .int (nI g0)])), (v1, .inl (cI, 9, .inl dg)), (v2, .inl (cI, 9, .inl gs))]) hw [2, 3, 4] rfl rfl (x_runV (n := 1) (rest := []) (As := [.int (nI j)]) S hw (k_isGiven l D cI cZ cV v0 v1 v2 dg gs num stt sec lk (nI (g0 + d0 + 1)) sc (nI G0) (nI g0) (nI j) _) xh_2_46 xh_2_43 xh_2_44 xh_2_45 xh_1_8 (by decide +kernel) ⟨by decide, by decide⟩ [2, 3, 4] rfl rfl (ci := 4) (q0 := 2) rfl rfl rfl hl.1 rfl (Nat.le_of_ble_eq_true rfl) dEV_give_66 ⟨by decide, by decide⟩) rfl rfl (fun H locs hw => ?_)
  refine lv_if_eq (tgt := 75) hx hb dEV_give_69 (by decide) (fun h69 => absurd h69 hg) (fun h69 => ?_)
  refine lv_iload hx hb dEV_give_72 (lv_at hl 0 rfl) ?_
  exact x_iret S hr hlk hw (by decide) (by decide) (⟨rfl, rfl⟩) dEV_give_74

set_option maxHeartbeats 4000000 in
set_option maxRecDepth 100000 in
theorem f_giv_full (l : Launch) (D : va_G) (cI cZ cV : ClassId) (h : Nat) (qc : Nat) (qj : Nat) (qe : Nat) (qs : Nat) (qm : Nat) (ctr : Int32) (act : Option Nat) (n1 : Nat) (mk : Nat → Option Nat) (k0 : Nat) (v0 : Nat) (v1 : Nat) (v2 : Nat) (dg : Nat → Int32) (gs : Nat → Int32) (num : Int32) (stt : Int32) (sec : Int32) (lk : Int32) (sc : Int32) (G0 : Nat) (g0 : Nat) (d0 : Nat) (j : Nat) (x : Int32) (j1 : Nat) (j2 : Nat) (j3 : Nat) (j4 : Nat) (ks : Nat → Int32) (ns : Nat → Int32) (ds : Nat → Int32) (ss : Nat → Int32) (c0 : Nat) (hm : mk k0 = some v0) (hk : k0 < n1 ∧ n1 ≤ 8) (hs : ¬ stt = 3) (hl9 : ¬ lk = 0) (hj : 1 ≤ j ∧ j ≤ 8) (hsc : ¬ sc < nI j) (hd : dg j = fDig (nI j) x) (hg : fGiv (nI G0) (nI j) = 0) (hd0 : 0 < d0 ∧ d0 < 100) (hc : c0 = 80) : XI l yEV_give cEV_give 6 (some .int) D (xT3 cI cZ cV) 3 0 0 [.ref h, .int (nI k0), .int (nI j), .int x] [(h, .inr (5, [.ref qc, .ref qj, .ref qe, .ref qs, .ref qm, .int (nI n1), va_rf act, .int ctr])), (qm, .inl (cV, 8, .inr (.inr (.inr (.inr mk))))), (v0, .inr (4, [.int num, .ref v1, .ref v2, .int stt, .int sec, .int lk, .int (nI (g0 + d0 + 1)), .int sc, .int (nI G0), .int (nI g0)])), (v1, .inl (cI, 9, .inl dg)), (v2, .inl (cI, 9, .inl gs)), (qj, .inr (2, [.ref j1, .ref j2, .ref j3, .ref j4, .int (nI c0)])), (j1, .inl (cI, 80, .inl ks)), (j2, .inl (cI, 80, .inl ns)), (j3, .inl (cI, 80, .inl ds)), (j4, .inl (cI, 80, .inl ss))] (fun r u => r = -2 ∧ u = [(h, .inr (5, [.ref qc, .ref qj, .ref qe, .ref qs, .ref qm, .int (nI n1), va_rf act, .int ctr])), (qm, .inl (cV, 8, .inr (.inr (.inr (.inr mk))))), (v0, .inr (4, [.int num, .ref v1, .ref v2, .int stt, .int sec, .int lk, .int (nI (g0 + d0 + 1)), .int sc, .int (nI G0), .int (nI g0)])), (v1, .inl (cI, 9, .inl dg)), (v2, .inl (cI, 9, .inl gs)), (qj, .inr (2, [.ref j1, .ref j2, .ref j3, .ref j4, .int (nI c0)])), (j1, .inl (cI, 80, .inl ks)), (j2, .inl (cI, 80, .inl ns)), (j3, .inl (cI, 80, .inl ds)), (j4, .inl (cI, 80, .inl ss))]) := by
  intro sz
  refine x_ofW (Qc := fun A => va_Qi _ (xB D A) A) sz (by decide) (Nat.le_of_ble_eq_true rfl) ?_
  intro p e s m args below meth c A ls S hr hlk hnm hw hl
  obtain ⟨hx, hb, hml, hown, hts⟩ := id S
  have hl : lv_has ls 6 [(0, .ref h), (1, .int (nI k0)), (2, .int (nI j)), (3, .int x)] := hl
  refine lv_aload_n hx hb dEV_give_0 rfl (lv_at hl 0 rfl) ?_
  refine lv_iload_n hx hb dEV_give_1 rfl (lv_at hl 1 rfl) ?_
  refine x_callqD (ws' := [(h, .inr (5, [.ref qc, .ref qj, .ref qe, .ref qs, .ref qm, .int (nI n1), va_rf act, .int ctr])), (qm, .inl (cV, 8, .inr (.inr (.inr (.inr mk))))), (v0, .inr (4, [.int num, .ref v1, .ref v2, .int stt, .int sec, .int lk, .int (nI (g0 + d0 + 1)), .int sc, .int (nI G0), .int (nI g0)])), (v1, .inl (cI, 9, .inl dg)), (v2, .inl (cI, 9, .inl gs)), (qj, .inr (2, [.ref j1, .ref j2, .ref j3, .ref j4, .int (nI c0)])), (j1, .inl (cI, 80, .inl ks)), (j2, .inl (cI, 80, .inl ns)), (j3, .inl (cI, 80, .inl ds)), (j4, .inl (cI, 80, .inl ss))]) hw [0, 1] rfl rfl (x_runV (n := 1) (rest := []) (As := [.int (nI k0)]) S hw (k_find_ok l D cI cZ cV h qc qj qe qs qm ctr act n1 mk k0 v0 hm hk _) xh_1_221 xh_1_218 xh_1_220 xsel_EV_find xh_1_1 (by decide +kernel) ⟨by decide, by decide⟩ [0, 1] rfl rfl (ci := 5) (q0 := 0) rfl rfl rfl hl.1 rfl (Nat.le_of_ble_eq_true rfl) dEV_give_2 ⟨by decide, by decide⟩) rfl rfl rfl (fun H locs hw => ?_)
  refine lv_astore (lv' := [(4, .ref v0), (0, .ref h), (1, .int (nI k0)), (2, .int (nI j)), (3, .int x)]) hx hb dEV_give_5 hl (by decide) rfl (fun ls hl => ?_)
  refine lv_aload hx hb dEV_give_7 (lv_at hl 0 rfl) ?_
  refine lv_ifnonnull (tgt := 14) hx hb dEV_give_9 (by decide) ?_
  refine lv_aload hx hb dEV_give_14 (lv_at hl 0 rfl) ?_
  refine x_getN S hw (C := RVE) (T := TVE) (N := 10) inVE 2 rfl rfl 3 (by decide) xh_1_172 (v := .int stt) rfl dEV_give_16 ?_
  refine lv_iconst (v := 3) hx hb dEV_give_19 (by decide) ?_
  refine lv_icmp_ne (tgt := 26) hx hb dEV_give_20 (by decide) (fun h20 => ?_) (fun h20 => absurd h20 hs)
  refine lv_aload hx hb dEV_give_26 (lv_at hl 0 rfl) ?_
  refine x_getN S hw (C := RVE) (T := TVE) (N := 10) inVE 2 rfl rfl 5 (by decide) xh_1_176 (v := .int lk) rfl dEV_give_28 ?_
  refine lv_if_ne (tgt := 37) hx hb dEV_give_31 (by decide) (fun h31 => ?_) (fun h31 => absurd h31 hl9)
  refine lv_aload hx hb dEV_give_37 (lv_at hl 0 rfl) ?_
  refine lv_iload_n hx hb dEV_give_39 rfl (lv_at hl 3 rfl) ?_
  refine lv_iload_n hx hb dEV_give_40 rfl (lv_at hl 4 rfl) ?_
  refine x_calliD (ws' := [(h, .inr (5, [.ref qc, .ref qj, .ref qe, .ref qs, .ref qm, .int (nI n1), va_rf act, .int ctr])), (qm, .inl (cV, 8, .inr (.inr (.inr (.inr mk))))), (v0, .inr (4, [.int num, .ref v1, .ref v2, .int stt, .int sec, .int lk, .int (nI (g0 + d0 + 1)), .int sc, .int (nI G0), .int (nI g0)])), (v1, .inl (cI, 9, .inl dg)), (v2, .inl (cI, 9, .inl gs)), (qj, .inr (2, [.ref j1, .ref j2, .ref j3, .ref j4, .int (nI c0)])), (j1, .inl (cI, 80, .inl ks)), (j2, .inl (cI, 80, .inl ns)), (j3, .inl (cI, 80, .inl ds)), (j4, .inl (cI, 80, .inl ss))]) hw [2, 3, 4] rfl rfl (x_runV (n := 2) (rest := []) (As := [.int (nI j), .int x]) S hw (k_fits_ok l D cI cZ cV v0 v1 v2 dg gs num stt sec lk (nI (g0 + d0 + 1)) sc (nI G0) (nI g0) j x hj hsc hd _) xh_2_42 xh_2_39 xh_2_40 xh_2_41 xh_1_8 (by decide +kernel) ⟨by decide, by decide⟩ [2, 3, 4] rfl rfl (ci := 4) (q0 := 2) rfl rfl rfl hl.1 rfl (Nat.le_of_ble_eq_true rfl) dEV_give_41 ⟨by decide, by decide⟩) rfl rfl (fun H locs hw => ?_)
  refine lv_if_ne (tgt := 50) hx hb dEV_give_44 (by decide) (fun h44 => ?_) (fun h44 => absurd h44 (by decide))
  refine lv_aload hx hb dEV_give_50 (lv_at hl 0 rfl) ?_
  refine x_getN S hw (C := RVE) (T := TVE) (N := 10) inVE 2 rfl rfl 6 (by decide) xh_1_178 (v := .int (nI (g0 + d0 + 1))) rfl dEV_give_52 ?_
  refine lv_aload hx hb dEV_give_55 (lv_at hl 0 rfl) ?_
  refine x_getN S hw (C := RVE) (T := TVE) (N := 10) inVE 2 rfl rfl 9 (by decide) xh_1_183 (v := .int (nI g0)) rfl dEV_give_57 ?_
  refine lv_isub hx hb dEV_give_60 ?_
  refine x_topi (y := nI (d0 + 1)) (by rw [pk_sub (by omega), show g0 + d0 + 1 - g0 = d0 + 1 by omega]) ?_
  refine lv_istore (lv' := [(5, .int (nI (d0 + 1))), (4, .ref v0), (0, .ref h), (1, .int (nI k0)), (2, .int (nI j)), (3, .int x)]) hx hb dEV_give_61 hl (by decide) rfl (fun ls hl => ?_)
  refine lv_aload hx hb dEV_give_63 (lv_at hl 1 rfl) ?_
  refine lv_iload_n hx hb dEV_give_65 rfl (lv_at hl 4 rfl) ?_
  refine x_calliD (ws' := [(h, .inr (5, [.ref qc, .ref qj, .ref qe, .ref qs, .ref qm, .int (nI n1), va_rf act, .int ctr])), (qm, .inl (cV, 8, .inr (.inr (.inr (.inr mk))))), (v0, .inr (4, [.int num, .ref v1, .ref v2, .int stt, .int sec, .int lk, .int (nI (g0 + d0 + 1)), .int sc, .int (nI G0), .int (nI g0)])), (v1, .inl (cI, 9, .inl dg)), (v2, .inl (cI, 9, .inl gs)), (qj, .inr (2, [.ref j1, .ref j2, .ref j3, .ref j4, .int (nI c0)])), (j1, .inl (cI, 80, .inl ks)), (j2, .inl (cI, 80, .inl ns)), (j3, .inl (cI, 80, .inl ds)), (j4, .inl (cI, 80, .inl ss))]) hw [2, 3, 4] rfl rfl (x_runV (n := 1) (rest := []) (As := [.int (nI j)]) S hw (k_isGiven l D cI cZ cV v0 v1 v2 dg gs num stt sec lk (nI (g0 + d0 + 1)) sc (nI G0) (nI g0) (nI j) _) xh_2_46 xh_2_43 xh_2_44 xh_2_45 xh_1_8 (by decide +kernel) ⟨by decide, by decide⟩ [2, 3, 4] rfl rfl (ci := 4) (q0 := 2) rfl rfl rfl hl.1 rfl (Nat.le_of_ble_eq_true rfl) dEV_give_66 ⟨by decide, by decide⟩) rfl rfl (fun H locs hw => ?_)
  refine lv_if_eq (tgt := 75) hx hb dEV_give_69 (by decide) (fun h69 => ?_) (fun h69 => absurd hg h69)
  refine lv_aload_n hx hb dEV_give_75 rfl (lv_at hl 2 rfl) ?_
  refine x_get S hw (C := REV) (T := TEV) (N := 8) inEV 0 rfl rfl 1 (by decide) xh_1_100 (v := .ref qj) rfl dEV_give_76 ?_
  refine lv_iload hx hb dEV_give_79 (lv_at hl 0 rfl) ?_
  refine lv_iconst (v := 1) hx hb dEV_give_81 (by decide) ?_
  refine lv_icmp_ne (tgt := 89) hx hb dEV_give_82 (by decide) (fun h82 => ?_) (fun h82 => absurd h82 (fun e => by have := (nI_eq (a := d0 + 1) (b := 1) (by omega) (by omega)).mp e; omega))
  refine lv_iconst (v := 1) hx hb dEV_give_89 (by decide) ?_
  refine x_calliD (ws' := [(h, .inr (5, [.ref qc, .ref qj, .ref qe, .ref qs, .ref qm, .int (nI n1), va_rf act, .int ctr])), (qm, .inl (cV, 8, .inr (.inr (.inr (.inr mk))))), (v0, .inr (4, [.int num, .ref v1, .ref v2, .int stt, .int sec, .int lk, .int (nI (g0 + d0 + 1)), .int sc, .int (nI G0), .int (nI g0)])), (v1, .inl (cI, 9, .inl dg)), (v2, .inl (cI, 9, .inl gs)), (qj, .inr (2, [.ref j1, .ref j2, .ref j3, .ref j4, .int (nI c0)])), (j1, .inl (cI, 80, .inl ks)), (j2, .inl (cI, 80, .inl ns)), (j3, .inl (cI, 80, .inl ds)), (j4, .inl (cI, 80, .inl ss))]) hw [5, 6, 7, 8, 9] rfl rfl (x_runV (n := 1) (rest := []) (As := [.int 1]) S hw (k_room_n l D cI cZ cV qj j1 j2 j3 j4 ks ns ds ss c0 1 (by omega) (by omega) _) xh_1_153 xh_1_150 xh_1_151 xh_1_152 xh_1_3 (by decide +kernel) ⟨by decide, by decide⟩ [5, 6, 7, 8, 9] rfl rfl (ci := 2) (q0 := 5) rfl rfl rfl hl.1 rfl (Nat.le_of_ble_eq_true rfl) dEV_give_90 ⟨by decide, by decide⟩) rfl rfl (fun H locs hw => ?_)
  refine lv_if_ne (tgt := 99) hx hb dEV_give_93 (by decide) (fun h93 => absurd rfl h93) (fun h93 => ?_)
  refine lv_bipush (v := (-2)) hx hb dEV_give_96 (by decide) ?_
  exact x_iret S hr hlk hw (by decide) (by decide) (⟨rfl, rfl⟩) dEV_give_98

set_option maxHeartbeats 4000000 in
set_option maxRecDepth 100000 in
theorem f_giv_ok (l : Launch) (D : va_G) (cI cZ cV : ClassId) (h : Nat) (qc : Nat) (qj : Nat) (qe : Nat) (qs : Nat) (qm : Nat) (ctr : Int32) (act : Option Nat) (n1 : Nat) (mk : Nat → Option Nat) (k0 : Nat) (v0 : Nat) (v1 : Nat) (v2 : Nat) (dg : Nat → Int32) (gs : Nat → Int32) (num : Int32) (stt : Int32) (sec : Int32) (lk : Int32) (sc : Int32) (G0 : Nat) (g0 : Nat) (d0 : Nat) (j : Nat) (x : Int32) (j1 : Nat) (j2 : Nat) (j3 : Nat) (j4 : Nat) (ks : Nat → Int32) (ns : Nat → Int32) (ds : Nat → Int32) (ss : Nat → Int32) (c0 : Nat) (hm : mk k0 = some v0) (hk : k0 < n1 ∧ n1 ≤ 8) (hs : ¬ stt = 3) (hl9 : ¬ lk = 0) (hj : 1 ≤ j ∧ j ≤ 8) (hsc : ¬ sc < nI j) (hd : dg j = fDig (nI j) x) (hg : fGiv (nI G0) (nI j) = 0) (hd0 : 0 < d0 ∧ d0 < 100) (hc : c0 < 80) : XI l yEV_give cEV_give 6 (some .int) D (xT3 cI cZ cV) 3 0 0 [.ref h, .int (nI k0), .int (nI j), .int x] [(h, .inr (5, [.ref qc, .ref qj, .ref qe, .ref qs, .ref qm, .int (nI n1), va_rf act, .int ctr])), (qm, .inl (cV, 8, .inr (.inr (.inr (.inr mk))))), (v0, .inr (4, [.int num, .ref v1, .ref v2, .int stt, .int sec, .int lk, .int (nI (g0 + d0 + 1)), .int sc, .int (nI G0), .int (nI g0)])), (v1, .inl (cI, 9, .inl dg)), (v2, .inl (cI, 9, .inl gs)), (qj, .inr (2, [.ref j1, .ref j2, .ref j3, .ref j4, .int (nI c0)])), (j1, .inl (cI, 80, .inl ks)), (j2, .inl (cI, 80, .inl ns)), (j3, .inl (cI, 80, .inl ds)), (j4, .inl (cI, 80, .inl ss))] (fun r u => r = nI d0 ∧ u = [(h, .inr (5, [.ref qc, .ref qj, .ref qe, .ref qs, .ref qm, .int (nI n1), va_rf act, .int ctr])), (qm, .inl (cV, 8, .inr (.inr (.inr (.inr mk))))), (v0, .inr (4, [.int num, .ref v1, .ref v2, .int stt, .int sec, .int lk, .int (nI (g0 + d0 + 1)), .int sc, .int (nI (G0 ||| 2 ^ j)), .int (nI (g0 + 1))])), (v1, .inl (cI, 9, .inl dg)), (v2, .inl (cI, 9, .inl (upd gs j x))), (qj, .inr (2, [.ref j1, .ref j2, .ref j3, .ref j4, .int (nI (c0 + 1))])), (j1, .inl (cI, 80, .inl (upd ks c0 (5)))), (j2, .inl (cI, 80, .inl (upd ns c0 (nI k0)))), (j3, .inl (cI, 80, .inl (upd ds c0 (nI j)))), (j4, .inl (cI, 80, .inl (upd ss c0 (fMix (fMix (fMix (jBef ss c0) (5)) (nI k0)) (nI j)))))]) := by
  intro sz
  refine x_ofW (Qc := fun A => va_Qi _ (xB D A) A) sz (by decide) (Nat.le_of_ble_eq_true rfl) ?_
  intro p e s m args below meth c A ls S hr hlk hnm hw hl
  obtain ⟨hx, hb, hml, hown, hts⟩ := id S
  have hl : lv_has ls 6 [(0, .ref h), (1, .int (nI k0)), (2, .int (nI j)), (3, .int x)] := hl
  refine lv_aload_n hx hb dEV_give_0 rfl (lv_at hl 0 rfl) ?_
  refine lv_iload_n hx hb dEV_give_1 rfl (lv_at hl 1 rfl) ?_
  refine x_callqD (ws' := [(h, .inr (5, [.ref qc, .ref qj, .ref qe, .ref qs, .ref qm, .int (nI n1), va_rf act, .int ctr])), (qm, .inl (cV, 8, .inr (.inr (.inr (.inr mk))))), (v0, .inr (4, [.int num, .ref v1, .ref v2, .int stt, .int sec, .int lk, .int (nI (g0 + d0 + 1)), .int sc, .int (nI G0), .int (nI g0)])), (v1, .inl (cI, 9, .inl dg)), (v2, .inl (cI, 9, .inl gs)), (qj, .inr (2, [.ref j1, .ref j2, .ref j3, .ref j4, .int (nI c0)])), (j1, .inl (cI, 80, .inl ks)), (j2, .inl (cI, 80, .inl ns)), (j3, .inl (cI, 80, .inl ds)), (j4, .inl (cI, 80, .inl ss))]) hw [0, 1] rfl rfl (x_runV (n := 1) (rest := []) (As := [.int (nI k0)]) S hw (k_find_ok l D cI cZ cV h qc qj qe qs qm ctr act n1 mk k0 v0 hm hk _) xh_1_221 xh_1_218 xh_1_220 xsel_EV_find xh_1_1 (by decide +kernel) ⟨by decide, by decide⟩ [0, 1] rfl rfl (ci := 5) (q0 := 0) rfl rfl rfl hl.1 rfl (Nat.le_of_ble_eq_true rfl) dEV_give_2 ⟨by decide, by decide⟩) rfl rfl rfl (fun H locs hw => ?_)
  refine lv_astore (lv' := [(4, .ref v0), (0, .ref h), (1, .int (nI k0)), (2, .int (nI j)), (3, .int x)]) hx hb dEV_give_5 hl (by decide) rfl (fun ls hl => ?_)
  refine lv_aload hx hb dEV_give_7 (lv_at hl 0 rfl) ?_
  refine lv_ifnonnull (tgt := 14) hx hb dEV_give_9 (by decide) ?_
  refine lv_aload hx hb dEV_give_14 (lv_at hl 0 rfl) ?_
  refine x_getN S hw (C := RVE) (T := TVE) (N := 10) inVE 2 rfl rfl 3 (by decide) xh_1_172 (v := .int stt) rfl dEV_give_16 ?_
  refine lv_iconst (v := 3) hx hb dEV_give_19 (by decide) ?_
  refine lv_icmp_ne (tgt := 26) hx hb dEV_give_20 (by decide) (fun h20 => ?_) (fun h20 => absurd h20 hs)
  refine lv_aload hx hb dEV_give_26 (lv_at hl 0 rfl) ?_
  refine x_getN S hw (C := RVE) (T := TVE) (N := 10) inVE 2 rfl rfl 5 (by decide) xh_1_176 (v := .int lk) rfl dEV_give_28 ?_
  refine lv_if_ne (tgt := 37) hx hb dEV_give_31 (by decide) (fun h31 => ?_) (fun h31 => absurd h31 hl9)
  refine lv_aload hx hb dEV_give_37 (lv_at hl 0 rfl) ?_
  refine lv_iload_n hx hb dEV_give_39 rfl (lv_at hl 3 rfl) ?_
  refine lv_iload_n hx hb dEV_give_40 rfl (lv_at hl 4 rfl) ?_
  refine x_calliD (ws' := [(h, .inr (5, [.ref qc, .ref qj, .ref qe, .ref qs, .ref qm, .int (nI n1), va_rf act, .int ctr])), (qm, .inl (cV, 8, .inr (.inr (.inr (.inr mk))))), (v0, .inr (4, [.int num, .ref v1, .ref v2, .int stt, .int sec, .int lk, .int (nI (g0 + d0 + 1)), .int sc, .int (nI G0), .int (nI g0)])), (v1, .inl (cI, 9, .inl dg)), (v2, .inl (cI, 9, .inl gs)), (qj, .inr (2, [.ref j1, .ref j2, .ref j3, .ref j4, .int (nI c0)])), (j1, .inl (cI, 80, .inl ks)), (j2, .inl (cI, 80, .inl ns)), (j3, .inl (cI, 80, .inl ds)), (j4, .inl (cI, 80, .inl ss))]) hw [2, 3, 4] rfl rfl (x_runV (n := 2) (rest := []) (As := [.int (nI j), .int x]) S hw (k_fits_ok l D cI cZ cV v0 v1 v2 dg gs num stt sec lk (nI (g0 + d0 + 1)) sc (nI G0) (nI g0) j x hj hsc hd _) xh_2_42 xh_2_39 xh_2_40 xh_2_41 xh_1_8 (by decide +kernel) ⟨by decide, by decide⟩ [2, 3, 4] rfl rfl (ci := 4) (q0 := 2) rfl rfl rfl hl.1 rfl (Nat.le_of_ble_eq_true rfl) dEV_give_41 ⟨by decide, by decide⟩) rfl rfl (fun H locs hw => ?_)
  refine lv_if_ne (tgt := 50) hx hb dEV_give_44 (by decide) (fun h44 => ?_) (fun h44 => absurd h44 (by decide))
  refine lv_aload hx hb dEV_give_50 (lv_at hl 0 rfl) ?_
  refine x_getN S hw (C := RVE) (T := TVE) (N := 10) inVE 2 rfl rfl 6 (by decide) xh_1_178 (v := .int (nI (g0 + d0 + 1))) rfl dEV_give_52 ?_
  refine lv_aload hx hb dEV_give_55 (lv_at hl 0 rfl) ?_
  refine x_getN S hw (C := RVE) (T := TVE) (N := 10) inVE 2 rfl rfl 9 (by decide) xh_1_183 (v := .int (nI g0)) rfl dEV_give_57 ?_
  refine lv_isub hx hb dEV_give_60 ?_
  refine x_topi (y := nI (d0 + 1)) (by rw [pk_sub (by omega), show g0 + d0 + 1 - g0 = d0 + 1 by omega]) ?_
  refine lv_istore (lv' := [(5, .int (nI (d0 + 1))), (4, .ref v0), (0, .ref h), (1, .int (nI k0)), (2, .int (nI j)), (3, .int x)]) hx hb dEV_give_61 hl (by decide) rfl (fun ls hl => ?_)
  refine lv_aload hx hb dEV_give_63 (lv_at hl 1 rfl) ?_
  refine lv_iload_n hx hb dEV_give_65 rfl (lv_at hl 4 rfl) ?_
  refine x_calliD (ws' := [(h, .inr (5, [.ref qc, .ref qj, .ref qe, .ref qs, .ref qm, .int (nI n1), va_rf act, .int ctr])), (qm, .inl (cV, 8, .inr (.inr (.inr (.inr mk))))), (v0, .inr (4, [.int num, .ref v1, .ref v2, .int stt, .int sec, .int lk, .int (nI (g0 + d0 + 1)), .int sc, .int (nI G0), .int (nI g0)])), (v1, .inl (cI, 9, .inl dg)), (v2, .inl (cI, 9, .inl gs)), (qj, .inr (2, [.ref j1, .ref j2, .ref j3, .ref j4, .int (nI c0)])), (j1, .inl (cI, 80, .inl ks)), (j2, .inl (cI, 80, .inl ns)), (j3, .inl (cI, 80, .inl ds)), (j4, .inl (cI, 80, .inl ss))]) hw [2, 3, 4] rfl rfl (x_runV (n := 1) (rest := []) (As := [.int (nI j)]) S hw (k_isGiven l D cI cZ cV v0 v1 v2 dg gs num stt sec lk (nI (g0 + d0 + 1)) sc (nI G0) (nI g0) (nI j) _) xh_2_46 xh_2_43 xh_2_44 xh_2_45 xh_1_8 (by decide +kernel) ⟨by decide, by decide⟩ [2, 3, 4] rfl rfl (ci := 4) (q0 := 2) rfl rfl rfl hl.1 rfl (Nat.le_of_ble_eq_true rfl) dEV_give_66 ⟨by decide, by decide⟩) rfl rfl (fun H locs hw => ?_)
  refine lv_if_eq (tgt := 75) hx hb dEV_give_69 (by decide) (fun h69 => ?_) (fun h69 => absurd hg h69)
  refine lv_aload_n hx hb dEV_give_75 rfl (lv_at hl 2 rfl) ?_
  refine x_get S hw (C := REV) (T := TEV) (N := 8) inEV 0 rfl rfl 1 (by decide) xh_1_100 (v := .ref qj) rfl dEV_give_76 ?_
  refine lv_iload hx hb dEV_give_79 (lv_at hl 0 rfl) ?_
  refine lv_iconst (v := 1) hx hb dEV_give_81 (by decide) ?_
  refine lv_icmp_ne (tgt := 89) hx hb dEV_give_82 (by decide) (fun h82 => ?_) (fun h82 => absurd h82 (fun e => by have := (nI_eq (a := d0 + 1) (b := 1) (by omega) (by omega)).mp e; omega))
  refine lv_iconst (v := 1) hx hb dEV_give_89 (by decide) ?_
  refine x_calliD (ws' := [(h, .inr (5, [.ref qc, .ref qj, .ref qe, .ref qs, .ref qm, .int (nI n1), va_rf act, .int ctr])), (qm, .inl (cV, 8, .inr (.inr (.inr (.inr mk))))), (v0, .inr (4, [.int num, .ref v1, .ref v2, .int stt, .int sec, .int lk, .int (nI (g0 + d0 + 1)), .int sc, .int (nI G0), .int (nI g0)])), (v1, .inl (cI, 9, .inl dg)), (v2, .inl (cI, 9, .inl gs)), (qj, .inr (2, [.ref j1, .ref j2, .ref j3, .ref j4, .int (nI c0)])), (j1, .inl (cI, 80, .inl ks)), (j2, .inl (cI, 80, .inl ns)), (j3, .inl (cI, 80, .inl ds)), (j4, .inl (cI, 80, .inl ss))]) hw [5, 6, 7, 8, 9] rfl rfl (x_runV (n := 1) (rest := []) (As := [.int 1]) S hw (k_room_y l D cI cZ cV qj j1 j2 j3 j4 ks ns ds ss c0 1 (by omega) _) xh_1_153 xh_1_150 xh_1_151 xh_1_152 xh_1_3 (by decide +kernel) ⟨by decide, by decide⟩ [5, 6, 7, 8, 9] rfl rfl (ci := 2) (q0 := 5) rfl rfl rfl hl.1 rfl (Nat.le_of_ble_eq_true rfl) dEV_give_90 ⟨by decide, by decide⟩) rfl rfl (fun H locs hw => ?_)
  refine lv_if_ne (tgt := 99) hx hb dEV_give_93 (by decide) (fun h93 => ?_) (fun h93 => absurd h93 (by decide))
  refine lv_aload hx hb dEV_give_99 (lv_at hl 1 rfl) ?_
  refine lv_iload_n hx hb dEV_give_101 rfl (lv_at hl 4 rfl) ?_
  refine lv_iload_n hx hb dEV_give_102 rfl (lv_at hl 5 rfl) ?_
  refine x_callvD (ws' := [(h, .inr (5, [.ref qc, .ref qj, .ref qe, .ref qs, .ref qm, .int (nI n1), va_rf act, .int ctr])), (qm, .inl (cV, 8, .inr (.inr (.inr (.inr mk))))), (v0, .inr (4, [.int num, .ref v1, .ref v2, .int stt, .int sec, .int lk, .int (nI (g0 + d0 + 1)), .int sc, .int (nI (G0 ||| 2 ^ j)), .int (nI (g0 + 1))])), (v1, .inl (cI, 9, .inl dg)), (v2, .inl (cI, 9, .inl (upd gs j x))), (qj, .inr (2, [.ref j1, .ref j2, .ref j3, .ref j4, .int (nI c0)])), (j1, .inl (cI, 80, .inl ks)), (j2, .inl (cI, 80, .inl ns)), (j3, .inl (cI, 80, .inl ds)), (j4, .inl (cI, 80, .inl ss))]) hw [2, 3, 4] rfl rfl (x_runV (n := 2) (rest := []) (As := [.int (nI j), .int x]) S hw (k_accept l D cI cZ cV v0 v1 v2 dg gs num stt sec lk (nI (g0 + d0 + 1)) sc G0 g0 j x (by omega) _) xh_2_50 xh_2_47 xh_2_48 xh_2_49 xh_1_8 (by decide +kernel) ⟨by decide, by decide⟩ [2, 3, 4] rfl rfl (ci := 4) (q0 := 2) rfl rfl rfl hl.1 rfl (Nat.le_of_ble_eq_true rfl) dEV_give_103 ⟨by decide, by decide⟩) rfl rfl (fun H locs hw => ?_)
  refine lv_aload_n hx hb dEV_give_106 rfl (lv_at hl 2 rfl) ?_
  refine x_get S hw (C := REV) (T := TEV) (N := 8) inEV 0 rfl rfl 1 (by decide) xh_1_100 (v := .ref qj) rfl dEV_give_107 ?_
  refine lv_iconst (v := 5) hx hb dEV_give_110 (by decide) ?_
  refine lv_iload_n hx hb dEV_give_111 rfl (lv_at hl 3 rfl) ?_
  refine lv_iload_n hx hb dEV_give_112 rfl (lv_at hl 4 rfl) ?_
  refine x_callvD (ws' := [(h, .inr (5, [.ref qc, .ref qj, .ref qe, .ref qs, .ref qm, .int (nI n1), va_rf act, .int ctr])), (qm, .inl (cV, 8, .inr (.inr (.inr (.inr mk))))), (v0, .inr (4, [.int num, .ref v1, .ref v2, .int stt, .int sec, .int lk, .int (nI (g0 + d0 + 1)), .int sc, .int (nI (G0 ||| 2 ^ j)), .int (nI (g0 + 1))])), (v1, .inl (cI, 9, .inl dg)), (v2, .inl (cI, 9, .inl (upd gs j x))), (qj, .inr (2, [.ref j1, .ref j2, .ref j3, .ref j4, .int (nI (c0 + 1))])), (j1, .inl (cI, 80, .inl (upd ks c0 5))), (j2, .inl (cI, 80, .inl (upd ns c0 (nI k0)))), (j3, .inl (cI, 80, .inl (upd ds c0 (nI j)))), (j4, .inl (cI, 80, .inl (upd ss c0 (fMix (fMix (fMix (jBef ss c0) 5) (nI k0)) (nI j)))))]) hw [5, 6, 7, 8, 9] rfl rfl (x_runV (n := 3) (rest := []) (As := [.int 5, .int (nI k0), .int (nI j)]) S hw (k_write l D cI cZ cV qj j1 j2 j3 j4 ks ns ds ss c0 5 (nI k0) (nI j) (by omega) _) xh_1_208 xh_1_205 xh_1_206 xh_1_207 xh_1_3 (by decide +kernel) ⟨by decide, by decide⟩ [5, 6, 7, 8, 9] rfl rfl (ci := 2) (q0 := 5) rfl rfl rfl hl.1 rfl (Nat.le_of_ble_eq_true rfl) dEV_give_113 ⟨by decide, by decide⟩) rfl rfl (fun H locs hw => ?_)
  refine lv_iload hx hb dEV_give_116 (lv_at hl 0 rfl) ?_
  refine lv_iconst (v := 1) hx hb dEV_give_118 (by decide) ?_
  refine lv_icmp_ne (tgt := 142) hx hb dEV_give_119 (by decide) (fun h119 => ?_) (fun h119 => absurd h119 (fun e => by have := (nI_eq (a := d0 + 1) (b := 1) (by omega) (by omega)).mp e; omega))
  refine lv_iload hx hb dEV_give_142 (lv_at hl 0 rfl) ?_
  refine lv_iconst (v := 1) hx hb dEV_give_144 (by decide) ?_
  refine lv_isub hx hb dEV_give_145 ?_
  refine x_topi (y := nI d0) (nI_pred d0) ?_
  exact x_iret S hr hlk hw (by decide) (by decide) (⟨rfl, rfl⟩) dEV_give_146

set_option maxHeartbeats 4000000 in
set_option maxRecDepth 100000 in
theorem f_giv_full2 (l : Launch) (D : va_G) (cI cZ cV : ClassId) (h : Nat) (qc : Nat) (qj : Nat) (qe : Nat) (qs : Nat) (qm : Nat) (ctr : Int32) (act : Option Nat) (n1 : Nat) (mk : Nat → Option Nat) (k0 : Nat) (v0 : Nat) (v1 : Nat) (v2 : Nat) (dg : Nat → Int32) (gs : Nat → Int32) (num : Int32) (stt : Int32) (sec : Int32) (lk : Int32) (sc : Int32) (G0 : Nat) (g0 : Nat) (j : Nat) (x : Int32) (j1 : Nat) (j2 : Nat) (j3 : Nat) (j4 : Nat) (ks : Nat → Int32) (ns : Nat → Int32) (ds : Nat → Int32) (ss : Nat → Int32) (c0 : Nat) (hm : mk k0 = some v0) (hk : k0 < n1 ∧ n1 ≤ 8) (hs : ¬ stt = 3) (hl9 : ¬ lk = 0) (hj : 1 ≤ j ∧ j ≤ 8) (hsc : ¬ sc < nI j) (hd : dg j = fDig (nI j) x) (hg : fGiv (nI G0) (nI j) = 0) (hc : 79 ≤ c0 ∧ c0 ≤ 80) : XI l yEV_give cEV_give 6 (some .int) D (xT3 cI cZ cV) 3 0 0 [.ref h, .int (nI k0), .int (nI j), .int x] [(h, .inr (5, [.ref qc, .ref qj, .ref qe, .ref qs, .ref qm, .int (nI n1), va_rf act, .int ctr])), (qm, .inl (cV, 8, .inr (.inr (.inr (.inr mk))))), (v0, .inr (4, [.int num, .ref v1, .ref v2, .int stt, .int sec, .int lk, .int (nI (g0 + 0 + 1)), .int sc, .int (nI G0), .int (nI g0)])), (v1, .inl (cI, 9, .inl dg)), (v2, .inl (cI, 9, .inl gs)), (qj, .inr (2, [.ref j1, .ref j2, .ref j3, .ref j4, .int (nI c0)])), (j1, .inl (cI, 80, .inl ks)), (j2, .inl (cI, 80, .inl ns)), (j3, .inl (cI, 80, .inl ds)), (j4, .inl (cI, 80, .inl ss))] (fun r u => r = -2 ∧ u = [(h, .inr (5, [.ref qc, .ref qj, .ref qe, .ref qs, .ref qm, .int (nI n1), va_rf act, .int ctr])), (qm, .inl (cV, 8, .inr (.inr (.inr (.inr mk))))), (v0, .inr (4, [.int num, .ref v1, .ref v2, .int stt, .int sec, .int lk, .int (nI (g0 + 0 + 1)), .int sc, .int (nI G0), .int (nI g0)])), (v1, .inl (cI, 9, .inl dg)), (v2, .inl (cI, 9, .inl gs)), (qj, .inr (2, [.ref j1, .ref j2, .ref j3, .ref j4, .int (nI c0)])), (j1, .inl (cI, 80, .inl ks)), (j2, .inl (cI, 80, .inl ns)), (j3, .inl (cI, 80, .inl ds)), (j4, .inl (cI, 80, .inl ss))]) := by
  intro sz
  refine x_ofW (Qc := fun A => va_Qi _ (xB D A) A) sz (by decide) (Nat.le_of_ble_eq_true rfl) ?_
  intro p e s m args below meth c A ls S hr hlk hnm hw hl
  obtain ⟨hx, hb, hml, hown, hts⟩ := id S
  have hl : lv_has ls 6 [(0, .ref h), (1, .int (nI k0)), (2, .int (nI j)), (3, .int x)] := hl
  refine lv_aload_n hx hb dEV_give_0 rfl (lv_at hl 0 rfl) ?_
  refine lv_iload_n hx hb dEV_give_1 rfl (lv_at hl 1 rfl) ?_
  refine x_callqD (ws' := [(h, .inr (5, [.ref qc, .ref qj, .ref qe, .ref qs, .ref qm, .int (nI n1), va_rf act, .int ctr])), (qm, .inl (cV, 8, .inr (.inr (.inr (.inr mk))))), (v0, .inr (4, [.int num, .ref v1, .ref v2, .int stt, .int sec, .int lk, .int (nI (g0 + 0 + 1)), .int sc, .int (nI G0), .int (nI g0)])), (v1, .inl (cI, 9, .inl dg)), (v2, .inl (cI, 9, .inl gs)), (qj, .inr (2, [.ref j1, .ref j2, .ref j3, .ref j4, .int (nI c0)])), (j1, .inl (cI, 80, .inl ks)), (j2, .inl (cI, 80, .inl ns)), (j3, .inl (cI, 80, .inl ds)), (j4, .inl (cI, 80, .inl ss))]) hw [0, 1] rfl rfl (x_runV (n := 1) (rest := []) (As := [.int (nI k0)]) S hw (k_find_ok l D cI cZ cV h qc qj qe qs qm ctr act n1 mk k0 v0 hm hk _) xh_1_221 xh_1_218 xh_1_220 xsel_EV_find xh_1_1 (by decide +kernel) ⟨by decide, by decide⟩ [0, 1] rfl rfl (ci := 5) (q0 := 0) rfl rfl rfl hl.1 rfl (Nat.le_of_ble_eq_true rfl) dEV_give_2 ⟨by decide, by decide⟩) rfl rfl rfl (fun H locs hw => ?_)
  refine lv_astore (lv' := [(4, .ref v0), (0, .ref h), (1, .int (nI k0)), (2, .int (nI j)), (3, .int x)]) hx hb dEV_give_5 hl (by decide) rfl (fun ls hl => ?_)
  refine lv_aload hx hb dEV_give_7 (lv_at hl 0 rfl) ?_
  refine lv_ifnonnull (tgt := 14) hx hb dEV_give_9 (by decide) ?_
  refine lv_aload hx hb dEV_give_14 (lv_at hl 0 rfl) ?_
  refine x_getN S hw (C := RVE) (T := TVE) (N := 10) inVE 2 rfl rfl 3 (by decide) xh_1_172 (v := .int stt) rfl dEV_give_16 ?_
  refine lv_iconst (v := 3) hx hb dEV_give_19 (by decide) ?_
  refine lv_icmp_ne (tgt := 26) hx hb dEV_give_20 (by decide) (fun h20 => ?_) (fun h20 => absurd h20 hs)
  refine lv_aload hx hb dEV_give_26 (lv_at hl 0 rfl) ?_
  refine x_getN S hw (C := RVE) (T := TVE) (N := 10) inVE 2 rfl rfl 5 (by decide) xh_1_176 (v := .int lk) rfl dEV_give_28 ?_
  refine lv_if_ne (tgt := 37) hx hb dEV_give_31 (by decide) (fun h31 => ?_) (fun h31 => absurd h31 hl9)
  refine lv_aload hx hb dEV_give_37 (lv_at hl 0 rfl) ?_
  refine lv_iload_n hx hb dEV_give_39 rfl (lv_at hl 3 rfl) ?_
  refine lv_iload_n hx hb dEV_give_40 rfl (lv_at hl 4 rfl) ?_
  refine x_calliD (ws' := [(h, .inr (5, [.ref qc, .ref qj, .ref qe, .ref qs, .ref qm, .int (nI n1), va_rf act, .int ctr])), (qm, .inl (cV, 8, .inr (.inr (.inr (.inr mk))))), (v0, .inr (4, [.int num, .ref v1, .ref v2, .int stt, .int sec, .int lk, .int (nI (g0 + 0 + 1)), .int sc, .int (nI G0), .int (nI g0)])), (v1, .inl (cI, 9, .inl dg)), (v2, .inl (cI, 9, .inl gs)), (qj, .inr (2, [.ref j1, .ref j2, .ref j3, .ref j4, .int (nI c0)])), (j1, .inl (cI, 80, .inl ks)), (j2, .inl (cI, 80, .inl ns)), (j3, .inl (cI, 80, .inl ds)), (j4, .inl (cI, 80, .inl ss))]) hw [2, 3, 4] rfl rfl (x_runV (n := 2) (rest := []) (As := [.int (nI j), .int x]) S hw (k_fits_ok l D cI cZ cV v0 v1 v2 dg gs num stt sec lk (nI (g0 + 0 + 1)) sc (nI G0) (nI g0) j x hj hsc hd _) xh_2_42 xh_2_39 xh_2_40 xh_2_41 xh_1_8 (by decide +kernel) ⟨by decide, by decide⟩ [2, 3, 4] rfl rfl (ci := 4) (q0 := 2) rfl rfl rfl hl.1 rfl (Nat.le_of_ble_eq_true rfl) dEV_give_41 ⟨by decide, by decide⟩) rfl rfl (fun H locs hw => ?_)
  refine lv_if_ne (tgt := 50) hx hb dEV_give_44 (by decide) (fun h44 => ?_) (fun h44 => absurd h44 (by decide))
  refine lv_aload hx hb dEV_give_50 (lv_at hl 0 rfl) ?_
  refine x_getN S hw (C := RVE) (T := TVE) (N := 10) inVE 2 rfl rfl 6 (by decide) xh_1_178 (v := .int (nI (g0 + 0 + 1))) rfl dEV_give_52 ?_
  refine lv_aload hx hb dEV_give_55 (lv_at hl 0 rfl) ?_
  refine x_getN S hw (C := RVE) (T := TVE) (N := 10) inVE 2 rfl rfl 9 (by decide) xh_1_183 (v := .int (nI g0)) rfl dEV_give_57 ?_
  refine lv_isub hx hb dEV_give_60 ?_
  refine x_topi (y := nI (0 + 1)) (by rw [pk_sub (by omega), show g0 + 0 + 1 - g0 = 0 + 1 by omega]) ?_
  refine lv_istore (lv' := [(5, .int (nI (0 + 1))), (4, .ref v0), (0, .ref h), (1, .int (nI k0)), (2, .int (nI j)), (3, .int x)]) hx hb dEV_give_61 hl (by decide) rfl (fun ls hl => ?_)
  refine lv_aload hx hb dEV_give_63 (lv_at hl 1 rfl) ?_
  refine lv_iload_n hx hb dEV_give_65 rfl (lv_at hl 4 rfl) ?_
  refine x_calliD (ws' := [(h, .inr (5, [.ref qc, .ref qj, .ref qe, .ref qs, .ref qm, .int (nI n1), va_rf act, .int ctr])), (qm, .inl (cV, 8, .inr (.inr (.inr (.inr mk))))), (v0, .inr (4, [.int num, .ref v1, .ref v2, .int stt, .int sec, .int lk, .int (nI (g0 + 0 + 1)), .int sc, .int (nI G0), .int (nI g0)])), (v1, .inl (cI, 9, .inl dg)), (v2, .inl (cI, 9, .inl gs)), (qj, .inr (2, [.ref j1, .ref j2, .ref j3, .ref j4, .int (nI c0)])), (j1, .inl (cI, 80, .inl ks)), (j2, .inl (cI, 80, .inl ns)), (j3, .inl (cI, 80, .inl ds)), (j4, .inl (cI, 80, .inl ss))]) hw [2, 3, 4] rfl rfl (x_runV (n := 1) (rest := []) (As := [.int (nI j)]) S hw (k_isGiven l D cI cZ cV v0 v1 v2 dg gs num stt sec lk (nI (g0 + 0 + 1)) sc (nI G0) (nI g0) (nI j) _) xh_2_46 xh_2_43 xh_2_44 xh_2_45 xh_1_8 (by decide +kernel) ⟨by decide, by decide⟩ [2, 3, 4] rfl rfl (ci := 4) (q0 := 2) rfl rfl rfl hl.1 rfl (Nat.le_of_ble_eq_true rfl) dEV_give_66 ⟨by decide, by decide⟩) rfl rfl (fun H locs hw => ?_)
  refine lv_if_eq (tgt := 75) hx hb dEV_give_69 (by decide) (fun h69 => ?_) (fun h69 => absurd hg h69)
  refine lv_aload_n hx hb dEV_give_75 rfl (lv_at hl 2 rfl) ?_
  refine x_get S hw (C := REV) (T := TEV) (N := 8) inEV 0 rfl rfl 1 (by decide) xh_1_100 (v := .ref qj) rfl dEV_give_76 ?_
  refine lv_iload hx hb dEV_give_79 (lv_at hl 0 rfl) ?_
  refine lv_iconst (v := 1) hx hb dEV_give_81 (by decide) ?_
  refine lv_icmp_ne (tgt := 89) hx hb dEV_give_82 (by decide) (fun h82 => absurd rfl h82) (fun h82 => ?_)
  refine lv_iconst (v := 2) hx hb dEV_give_85 (by decide) ?_
  refine lv_goto (tgt := 90) hx hb dEV_give_86 (by decide) ?_
  refine x_calliD (ws' := [(h, .inr (5, [.ref qc, .ref qj, .ref qe, .ref qs, .ref qm, .int (nI n1), va_rf act, .int ctr])), (qm, .inl (cV, 8, .inr (.inr (.inr (.inr mk))))), (v0, .inr (4, [.int num, .ref v1, .ref v2, .int stt, .int sec, .int lk, .int (nI (g0 + 0 + 1)), .int sc, .int (nI G0), .int (nI g0)])), (v1, .inl (cI, 9, .inl dg)), (v2, .inl (cI, 9, .inl gs)), (qj, .inr (2, [.ref j1, .ref j2, .ref j3, .ref j4, .int (nI c0)])), (j1, .inl (cI, 80, .inl ks)), (j2, .inl (cI, 80, .inl ns)), (j3, .inl (cI, 80, .inl ds)), (j4, .inl (cI, 80, .inl ss))]) hw [5, 6, 7, 8, 9] rfl rfl (x_runV (n := 1) (rest := []) (As := [.int 2]) S hw (k_room_n l D cI cZ cV qj j1 j2 j3 j4 ks ns ds ss c0 2 (by omega) (by omega) _) xh_1_153 xh_1_150 xh_1_151 xh_1_152 xh_1_3 (by decide +kernel) ⟨by decide, by decide⟩ [5, 6, 7, 8, 9] rfl rfl (ci := 2) (q0 := 5) rfl rfl rfl hl.1 rfl (Nat.le_of_ble_eq_true rfl) dEV_give_90 ⟨by decide, by decide⟩) rfl rfl (fun H locs hw => ?_)
  refine lv_if_ne (tgt := 99) hx hb dEV_give_93 (by decide) (fun h93 => absurd rfl h93) (fun h93 => ?_)
  refine lv_bipush (v := (-2)) hx hb dEV_give_96 (by decide) ?_
  exact x_iret S hr hlk hw (by decide) (by decide) (⟨rfl, rfl⟩) dEV_give_98

set_option maxHeartbeats 4000000 in
set_option maxRecDepth 100000 in
theorem f_giv_open (l : Launch) (D : va_G) (cI cZ cV : ClassId) (h : Nat) (qc : Nat) (qj : Nat) (qe : Nat) (qs : Nat) (qm : Nat) (ctr : Int32) (act : Option Nat) (n1 : Nat) (mk : Nat → Option Nat) (k0 : Nat) (v0 : Nat) (v1 : Nat) (v2 : Nat) (dg : Nat → Int32) (gs : Nat → Int32) (num : Int32) (stt : Int32) (sec : Int32) (lk : Int32) (sc : Int32) (G0 : Nat) (g0 : Nat) (j : Nat) (x : Int32) (j1 : Nat) (j2 : Nat) (j3 : Nat) (j4 : Nat) (ks : Nat → Int32) (ns : Nat → Int32) (ds : Nat → Int32) (ss : Nat → Int32) (c0 : Nat) (hm : mk k0 = some v0) (hk : k0 < n1 ∧ n1 ≤ 8) (hs : ¬ stt = 3) (hl9 : ¬ lk = 0) (hj : 1 ≤ j ∧ j ≤ 8) (hsc : ¬ sc < nI j) (hd : dg j = fDig (nI j) x) (hg : fGiv (nI G0) (nI j) = 0) (hc : c0 + 1 < 80) : XI l yEV_give cEV_give 6 (some .int) D (xT3 cI cZ cV) 5 0 0 [.ref h, .int (nI k0), .int (nI j), .int x] [(h, .inr (5, [.ref qc, .ref qj, .ref qe, .ref qs, .ref qm, .int (nI n1), va_rf act, .int ctr])), (qm, .inl (cV, 8, .inr (.inr (.inr (.inr mk))))), (v0, .inr (4, [.int num, .ref v1, .ref v2, .int stt, .int sec, .int lk, .int (nI (g0 + 0 + 1)), .int sc, .int (nI G0), .int (nI g0)])), (v1, .inl (cI, 9, .inl dg)), (v2, .inl (cI, 9, .inl gs)), (qj, .inr (2, [.ref j1, .ref j2, .ref j3, .ref j4, .int (nI c0)])), (j1, .inl (cI, 80, .inl ks)), (j2, .inl (cI, 80, .inl ns)), (j3, .inl (cI, 80, .inl ds)), (j4, .inl (cI, 80, .inl ss))] (fun r u => r = 0 ∧ u = [(h, .inr (5, [.ref qc, .ref qj, .ref qe, .ref qs, .ref qm, .int (nI n1), va_rf act, .int ctr])), (qm, .inl (cV, 8, .inr (.inr (.inr (.inr mk))))), (v0, .inr (4, [.int num, .ref v1, .ref v2, .int stt, .int (ptF (nI (G0 ||| 2 ^ j)) (upd gs j x) 8), .int 0, .int (nI (g0 + 0 + 1)), .int sc, .int 0, .int 0])), (v1, .inl (cI, 9, .inl dg)), (v2, .inl (cI, 9, .inl (flF (upd gs j x) 0 9))), (qj, .inr (2, [.ref j1, .ref j2, .ref j3, .ref j4, .int (nI (c0 + 1 + 1))])), (j1, .inl (cI, 80, .inl (upd (upd ks c0 (5)) (c0 + 1) 6))), (j2, .inl (cI, 80, .inl (upd (upd ns c0 (nI k0)) (c0 + 1) (nI k0)))), (j3, .inl (cI, 80, .inl (upd (upd ds c0 (nI j)) (c0 + 1) (nI (g0 + 0 + 1))))), (j4, .inl (cI, 80, .inl (upd (upd ss c0 (fMix (fMix (fMix (jBef ss c0) (5)) (nI k0)) (nI j))) (c0 + 1) (fMix (fMix (fMix (jBef (upd ss c0 (fMix (fMix (fMix (jBef ss c0) (5)) (nI k0)) (nI j))) (c0 + 1)) 6) (nI k0)) (nI (g0 + 0 + 1))))))]) := by
  intro sz
  refine x_ofW (Qc := fun A => va_Qi _ (xB D A) A) sz (by decide) (Nat.le_of_ble_eq_true rfl) ?_
  intro p e s m args below meth c A ls S hr hlk hnm hw hl
  obtain ⟨hx, hb, hml, hown, hts⟩ := id S
  have hl : lv_has ls 6 [(0, .ref h), (1, .int (nI k0)), (2, .int (nI j)), (3, .int x)] := hl
  refine lv_aload_n hx hb dEV_give_0 rfl (lv_at hl 0 rfl) ?_
  refine lv_iload_n hx hb dEV_give_1 rfl (lv_at hl 1 rfl) ?_
  refine x_callqD (ws' := [(h, .inr (5, [.ref qc, .ref qj, .ref qe, .ref qs, .ref qm, .int (nI n1), va_rf act, .int ctr])), (qm, .inl (cV, 8, .inr (.inr (.inr (.inr mk))))), (v0, .inr (4, [.int num, .ref v1, .ref v2, .int stt, .int sec, .int lk, .int (nI (g0 + 0 + 1)), .int sc, .int (nI G0), .int (nI g0)])), (v1, .inl (cI, 9, .inl dg)), (v2, .inl (cI, 9, .inl gs)), (qj, .inr (2, [.ref j1, .ref j2, .ref j3, .ref j4, .int (nI c0)])), (j1, .inl (cI, 80, .inl ks)), (j2, .inl (cI, 80, .inl ns)), (j3, .inl (cI, 80, .inl ds)), (j4, .inl (cI, 80, .inl ss))]) hw [0, 1] rfl rfl (x_runV (n := 1) (rest := []) (As := [.int (nI k0)]) S hw (k_find_ok l D cI cZ cV h qc qj qe qs qm ctr act n1 mk k0 v0 hm hk _) xh_1_221 xh_1_218 xh_1_220 xsel_EV_find xh_1_1 (by decide +kernel) ⟨by decide, by decide⟩ [0, 1] rfl rfl (ci := 5) (q0 := 0) rfl rfl rfl hl.1 rfl (Nat.le_of_ble_eq_true rfl) dEV_give_2 ⟨by decide, by decide⟩) rfl rfl rfl (fun H locs hw => ?_)
  refine lv_astore (lv' := [(4, .ref v0), (0, .ref h), (1, .int (nI k0)), (2, .int (nI j)), (3, .int x)]) hx hb dEV_give_5 hl (by decide) rfl (fun ls hl => ?_)
  refine lv_aload hx hb dEV_give_7 (lv_at hl 0 rfl) ?_
  refine lv_ifnonnull (tgt := 14) hx hb dEV_give_9 (by decide) ?_
  refine lv_aload hx hb dEV_give_14 (lv_at hl 0 rfl) ?_
  refine x_getN S hw (C := RVE) (T := TVE) (N := 10) inVE 2 rfl rfl 3 (by decide) xh_1_172 (v := .int stt) rfl dEV_give_16 ?_
  refine lv_iconst (v := 3) hx hb dEV_give_19 (by decide) ?_
  refine lv_icmp_ne (tgt := 26) hx hb dEV_give_20 (by decide) (fun h20 => ?_) (fun h20 => absurd h20 hs)
  refine lv_aload hx hb dEV_give_26 (lv_at hl 0 rfl) ?_
  refine x_getN S hw (C := RVE) (T := TVE) (N := 10) inVE 2 rfl rfl 5 (by decide) xh_1_176 (v := .int lk) rfl dEV_give_28 ?_
  refine lv_if_ne (tgt := 37) hx hb dEV_give_31 (by decide) (fun h31 => ?_) (fun h31 => absurd h31 hl9)
  refine lv_aload hx hb dEV_give_37 (lv_at hl 0 rfl) ?_
  refine lv_iload_n hx hb dEV_give_39 rfl (lv_at hl 3 rfl) ?_
  refine lv_iload_n hx hb dEV_give_40 rfl (lv_at hl 4 rfl) ?_
  refine x_calliD (ws' := [(h, .inr (5, [.ref qc, .ref qj, .ref qe, .ref qs, .ref qm, .int (nI n1), va_rf act, .int ctr])), (qm, .inl (cV, 8, .inr (.inr (.inr (.inr mk))))), (v0, .inr (4, [.int num, .ref v1, .ref v2, .int stt, .int sec, .int lk, .int (nI (g0 + 0 + 1)), .int sc, .int (nI G0), .int (nI g0)])), (v1, .inl (cI, 9, .inl dg)), (v2, .inl (cI, 9, .inl gs)), (qj, .inr (2, [.ref j1, .ref j2, .ref j3, .ref j4, .int (nI c0)])), (j1, .inl (cI, 80, .inl ks)), (j2, .inl (cI, 80, .inl ns)), (j3, .inl (cI, 80, .inl ds)), (j4, .inl (cI, 80, .inl ss))]) hw [2, 3, 4] rfl rfl (x_runV (n := 2) (rest := []) (As := [.int (nI j), .int x]) S hw (k_fits_ok l D cI cZ cV v0 v1 v2 dg gs num stt sec lk (nI (g0 + 0 + 1)) sc (nI G0) (nI g0) j x hj hsc hd _) xh_2_42 xh_2_39 xh_2_40 xh_2_41 xh_1_8 (by decide +kernel) ⟨by decide, by decide⟩ [2, 3, 4] rfl rfl (ci := 4) (q0 := 2) rfl rfl rfl hl.1 rfl (Nat.le_of_ble_eq_true rfl) dEV_give_41 ⟨by decide, by decide⟩) rfl rfl (fun H locs hw => ?_)
  refine lv_if_ne (tgt := 50) hx hb dEV_give_44 (by decide) (fun h44 => ?_) (fun h44 => absurd h44 (by decide))
  refine lv_aload hx hb dEV_give_50 (lv_at hl 0 rfl) ?_
  refine x_getN S hw (C := RVE) (T := TVE) (N := 10) inVE 2 rfl rfl 6 (by decide) xh_1_178 (v := .int (nI (g0 + 0 + 1))) rfl dEV_give_52 ?_
  refine lv_aload hx hb dEV_give_55 (lv_at hl 0 rfl) ?_
  refine x_getN S hw (C := RVE) (T := TVE) (N := 10) inVE 2 rfl rfl 9 (by decide) xh_1_183 (v := .int (nI g0)) rfl dEV_give_57 ?_
  refine lv_isub hx hb dEV_give_60 ?_
  refine x_topi (y := nI (0 + 1)) (by rw [pk_sub (by omega), show g0 + 0 + 1 - g0 = 0 + 1 by omega]) ?_
  refine lv_istore (lv' := [(5, .int (nI (0 + 1))), (4, .ref v0), (0, .ref h), (1, .int (nI k0)), (2, .int (nI j)), (3, .int x)]) hx hb dEV_give_61 hl (by decide) rfl (fun ls hl => ?_)
  refine lv_aload hx hb dEV_give_63 (lv_at hl 1 rfl) ?_
  refine lv_iload_n hx hb dEV_give_65 rfl (lv_at hl 4 rfl) ?_
  refine x_calliD (ws' := [(h, .inr (5, [.ref qc, .ref qj, .ref qe, .ref qs, .ref qm, .int (nI n1), va_rf act, .int ctr])), (qm, .inl (cV, 8, .inr (.inr (.inr (.inr mk))))), (v0, .inr (4, [.int num, .ref v1, .ref v2, .int stt, .int sec, .int lk, .int (nI (g0 + 0 + 1)), .int sc, .int (nI G0), .int (nI g0)])), (v1, .inl (cI, 9, .inl dg)), (v2, .inl (cI, 9, .inl gs)), (qj, .inr (2, [.ref j1, .ref j2, .ref j3, .ref j4, .int (nI c0)])), (j1, .inl (cI, 80, .inl ks)), (j2, .inl (cI, 80, .inl ns)), (j3, .inl (cI, 80, .inl ds)), (j4, .inl (cI, 80, .inl ss))]) hw [2, 3, 4] rfl rfl (x_runV (n := 1) (rest := []) (As := [.int (nI j)]) S hw (k_isGiven l D cI cZ cV v0 v1 v2 dg gs num stt sec lk (nI (g0 + 0 + 1)) sc (nI G0) (nI g0) (nI j) _) xh_2_46 xh_2_43 xh_2_44 xh_2_45 xh_1_8 (by decide +kernel) ⟨by decide, by decide⟩ [2, 3, 4] rfl rfl (ci := 4) (q0 := 2) rfl rfl rfl hl.1 rfl (Nat.le_of_ble_eq_true rfl) dEV_give_66 ⟨by decide, by decide⟩) rfl rfl (fun H locs hw => ?_)
  refine lv_if_eq (tgt := 75) hx hb dEV_give_69 (by decide) (fun h69 => ?_) (fun h69 => absurd hg h69)
  refine lv_aload_n hx hb dEV_give_75 rfl (lv_at hl 2 rfl) ?_
  refine x_get S hw (C := REV) (T := TEV) (N := 8) inEV 0 rfl rfl 1 (by decide) xh_1_100 (v := .ref qj) rfl dEV_give_76 ?_
  refine lv_iload hx hb dEV_give_79 (lv_at hl 0 rfl) ?_
  refine lv_iconst (v := 1) hx hb dEV_give_81 (by decide) ?_
  refine lv_icmp_ne (tgt := 89) hx hb dEV_give_82 (by decide) (fun h82 => absurd rfl h82) (fun h82 => ?_)
  refine lv_iconst (v := 2) hx hb dEV_give_85 (by decide) ?_
  refine lv_goto (tgt := 90) hx hb dEV_give_86 (by decide) ?_
  refine x_calliD (ws' := [(h, .inr (5, [.ref qc, .ref qj, .ref qe, .ref qs, .ref qm, .int (nI n1), va_rf act, .int ctr])), (qm, .inl (cV, 8, .inr (.inr (.inr (.inr mk))))), (v0, .inr (4, [.int num, .ref v1, .ref v2, .int stt, .int sec, .int lk, .int (nI (g0 + 0 + 1)), .int sc, .int (nI G0), .int (nI g0)])), (v1, .inl (cI, 9, .inl dg)), (v2, .inl (cI, 9, .inl gs)), (qj, .inr (2, [.ref j1, .ref j2, .ref j3, .ref j4, .int (nI c0)])), (j1, .inl (cI, 80, .inl ks)), (j2, .inl (cI, 80, .inl ns)), (j3, .inl (cI, 80, .inl ds)), (j4, .inl (cI, 80, .inl ss))]) hw [5, 6, 7, 8, 9] rfl rfl (x_runV (n := 1) (rest := []) (As := [.int 2]) S hw (k_room_y l D cI cZ cV qj j1 j2 j3 j4 ks ns ds ss c0 2 (by omega) _) xh_1_153 xh_1_150 xh_1_151 xh_1_152 xh_1_3 (by decide +kernel) ⟨by decide, by decide⟩ [5, 6, 7, 8, 9] rfl rfl (ci := 2) (q0 := 5) rfl rfl rfl hl.1 rfl (Nat.le_of_ble_eq_true rfl) dEV_give_90 ⟨by decide, by decide⟩) rfl rfl (fun H locs hw => ?_)
  refine lv_if_ne (tgt := 99) hx hb dEV_give_93 (by decide) (fun h93 => ?_) (fun h93 => absurd h93 (by decide))
  refine lv_aload hx hb dEV_give_99 (lv_at hl 1 rfl) ?_
  refine lv_iload_n hx hb dEV_give_101 rfl (lv_at hl 4 rfl) ?_
  refine lv_iload_n hx hb dEV_give_102 rfl (lv_at hl 5 rfl) ?_
  refine x_callvD (ws' := [(h, .inr (5, [.ref qc, .ref qj, .ref qe, .ref qs, .ref qm, .int (nI n1), va_rf act, .int ctr])), (qm, .inl (cV, 8, .inr (.inr (.inr (.inr mk))))), (v0, .inr (4, [.int num, .ref v1, .ref v2, .int stt, .int sec, .int lk, .int (nI (g0 + 0 + 1)), .int sc, .int (nI (G0 ||| 2 ^ j)), .int (nI (g0 + 1))])), (v1, .inl (cI, 9, .inl dg)), (v2, .inl (cI, 9, .inl (upd gs j x))), (qj, .inr (2, [.ref j1, .ref j2, .ref j3, .ref j4, .int (nI c0)])), (j1, .inl (cI, 80, .inl ks)), (j2, .inl (cI, 80, .inl ns)), (j3, .inl (cI, 80, .inl ds)), (j4, .inl (cI, 80, .inl ss))]) hw [2, 3, 4] rfl rfl (x_runV (n := 2) (rest := []) (As := [.int (nI j), .int x]) S hw (k_accept l D cI cZ cV v0 v1 v2 dg gs num stt sec lk (nI (g0 + 0 + 1)) sc G0 g0 j x (by omega) _) xh_2_50 xh_2_47 xh_2_48 xh_2_49 xh_1_8 (by decide +kernel) ⟨by decide, by decide⟩ [2, 3, 4] rfl rfl (ci := 4) (q0 := 2) rfl rfl rfl hl.1 rfl (Nat.le_of_ble_eq_true rfl) dEV_give_103 ⟨by decide, by decide⟩) rfl rfl (fun H locs hw => ?_)
  refine lv_aload_n hx hb dEV_give_106 rfl (lv_at hl 2 rfl) ?_
  refine x_get S hw (C := REV) (T := TEV) (N := 8) inEV 0 rfl rfl 1 (by decide) xh_1_100 (v := .ref qj) rfl dEV_give_107 ?_
  refine lv_iconst (v := 5) hx hb dEV_give_110 (by decide) ?_
  refine lv_iload_n hx hb dEV_give_111 rfl (lv_at hl 3 rfl) ?_
  refine lv_iload_n hx hb dEV_give_112 rfl (lv_at hl 4 rfl) ?_
  refine x_callvD (ws' := [(h, .inr (5, [.ref qc, .ref qj, .ref qe, .ref qs, .ref qm, .int (nI n1), va_rf act, .int ctr])), (qm, .inl (cV, 8, .inr (.inr (.inr (.inr mk))))), (v0, .inr (4, [.int num, .ref v1, .ref v2, .int stt, .int sec, .int lk, .int (nI (g0 + 0 + 1)), .int sc, .int (nI (G0 ||| 2 ^ j)), .int (nI (g0 + 1))])), (v1, .inl (cI, 9, .inl dg)), (v2, .inl (cI, 9, .inl (upd gs j x))), (qj, .inr (2, [.ref j1, .ref j2, .ref j3, .ref j4, .int (nI (c0 + 1))])), (j1, .inl (cI, 80, .inl (upd ks c0 5))), (j2, .inl (cI, 80, .inl (upd ns c0 (nI k0)))), (j3, .inl (cI, 80, .inl (upd ds c0 (nI j)))), (j4, .inl (cI, 80, .inl (upd ss c0 (fMix (fMix (fMix (jBef ss c0) 5) (nI k0)) (nI j)))))]) hw [5, 6, 7, 8, 9] rfl rfl (x_runV (n := 3) (rest := []) (As := [.int 5, .int (nI k0), .int (nI j)]) S hw (k_write l D cI cZ cV qj j1 j2 j3 j4 ks ns ds ss c0 5 (nI k0) (nI j) (by omega) _) xh_1_208 xh_1_205 xh_1_206 xh_1_207 xh_1_3 (by decide +kernel) ⟨by decide, by decide⟩ [5, 6, 7, 8, 9] rfl rfl (ci := 2) (q0 := 5) rfl rfl rfl hl.1 rfl (Nat.le_of_ble_eq_true rfl) dEV_give_113 ⟨by decide, by decide⟩) rfl rfl (fun H locs hw => ?_)
  refine lv_iload hx hb dEV_give_116 (lv_at hl 0 rfl) ?_
  refine lv_iconst (v := 1) hx hb dEV_give_118 (by decide) ?_
  refine lv_icmp_ne (tgt := 142) hx hb dEV_give_119 (by decide) (fun h119 => absurd rfl h119) (fun h119 => ?_)
  refine lv_aload hx hb dEV_give_122 (lv_at hl 1 rfl) ?_
  refine x_callvD (ws' := [(h, .inr (5, [.ref qc, .ref qj, .ref qe, .ref qs, .ref qm, .int (nI n1), va_rf act, .int ctr])), (qm, .inl (cV, 8, .inr (.inr (.inr (.inr mk))))), (v0, .inr (4, [.int num, .ref v1, .ref v2, .int stt, .int (ptF (nI (G0 ||| 2 ^ j)) (upd gs j x) 8), .int 0, .int (nI (g0 + 0 + 1)), .int sc, .int 0, .int 0])), (v1, .inl (cI, 9, .inl dg)), (v2, .inl (cI, 9, .inl (flF (upd gs j x) 0 9))), (qj, .inr (2, [.ref j1, .ref j2, .ref j3, .ref j4, .int (nI (c0 + 1))])), (j1, .inl (cI, 80, .inl (upd ks c0 5))), (j2, .inl (cI, 80, .inl (upd ns c0 (nI k0)))), (j3, .inl (cI, 80, .inl (upd ds c0 (nI j)))), (j4, .inl (cI, 80, .inl (upd ss c0 (fMix (fMix (fMix (jBef ss c0) 5) (nI k0)) (nI j)))))]) hw [2, 3, 4] rfl rfl (x_runV (n := 0) (rest := []) (As := []) S hw (k_open l D cI cZ cV v0 v1 v2 dg (upd gs j x) num stt sec lk (nI (g0 + 0 + 1)) sc (nI (G0 ||| 2 ^ j)) (nI (g0 + 1)) _) xh_2_54 xh_2_51 xh_2_52 xh_2_53 xh_1_8 (by decide +kernel) ⟨by decide, by decide⟩ [2, 3, 4] rfl rfl (ci := 4) (q0 := 2) rfl rfl rfl hl.1 rfl (Nat.le_of_ble_eq_true rfl) dEV_give_124 ⟨by decide, by decide⟩) rfl rfl (fun H locs hw => ?_)
  refine lv_aload_n hx hb dEV_give_127 rfl (lv_at hl 2 rfl) ?_
  refine x_get S hw (C := REV) (T := TEV) (N := 8) inEV 0 rfl rfl 1 (by decide) xh_1_100 (v := .ref qj) rfl dEV_give_128 ?_
  refine lv_bipush (v := 6) hx hb dEV_give_131 (by decide) ?_
  refine lv_iload_n hx hb dEV_give_133 rfl (lv_at hl 3 rfl) ?_
  refine lv_aload hx hb dEV_give_134 (lv_at hl 1 rfl) ?_
  refine x_getN S hw (C := RVE) (T := TVE) (N := 10) inVE 2 rfl rfl 6 (by decide) xh_1_178 (v := .int (nI (g0 + 0 + 1))) rfl dEV_give_136 ?_
  refine x_callvD (ws' := [(h, .inr (5, [.ref qc, .ref qj, .ref qe, .ref qs, .ref qm, .int (nI n1), va_rf act, .int ctr])), (qm, .inl (cV, 8, .inr (.inr (.inr (.inr mk))))), (v0, .inr (4, [.int num, .ref v1, .ref v2, .int stt, .int (ptF (nI (G0 ||| 2 ^ j)) (upd gs j x) 8), .int 0, .int (nI (g0 + 0 + 1)), .int sc, .int 0, .int 0])), (v1, .inl (cI, 9, .inl dg)), (v2, .inl (cI, 9, .inl (flF (upd gs j x) 0 9))), (qj, .inr (2, [.ref j1, .ref j2, .ref j3, .ref j4, .int (nI ((c0 + 1) + 1))])), (j1, .inl (cI, 80, .inl (upd (upd ks c0 5) (c0 + 1) 6))), (j2, .inl (cI, 80, .inl (upd (upd ns c0 (nI k0)) (c0 + 1) (nI k0)))), (j3, .inl (cI, 80, .inl (upd (upd ds c0 (nI j)) (c0 + 1) (nI (g0 + 0 + 1))))), (j4, .inl (cI, 80, .inl (upd (upd ss c0 (fMix (fMix (fMix (jBef ss c0) 5) (nI k0)) (nI j))) (c0 + 1) (fMix (fMix (fMix (jBef (upd ss c0 (fMix (fMix (fMix (jBef ss c0) 5) (nI k0)) (nI j))) (c0 + 1)) 6) (nI k0)) (nI (g0 + 0 + 1))))))]) hw [5, 6, 7, 8, 9] rfl rfl (x_runV (n := 3) (rest := []) (As := [.int 6, .int (nI k0), .int (nI (g0 + 0 + 1))]) S hw (k_write l D cI cZ cV qj j1 j2 j3 j4 (upd ks c0 5) (upd ns c0 (nI k0)) (upd ds c0 (nI j)) (upd ss c0 (fMix (fMix (fMix (jBef ss c0) 5) (nI k0)) (nI j))) (c0 + 1) 6 (nI k0) (nI (g0 + 0 + 1)) (by omega) _) xh_1_208 xh_1_205 xh_1_206 xh_1_207 xh_1_3 (by decide +kernel) ⟨by decide, by decide⟩ [5, 6, 7, 8, 9] rfl rfl (ci := 2) (q0 := 5) rfl rfl rfl hl.1 rfl (Nat.le_of_ble_eq_true rfl) dEV_give_139 ⟨by decide, by decide⟩) rfl rfl (fun H locs hw => ?_)
  refine lv_iload hx hb dEV_give_142 (lv_at hl 0 rfl) ?_
  refine lv_iconst (v := 1) hx hb dEV_give_144 (by decide) ?_
  refine lv_isub hx hb dEV_give_145 ?_
  refine x_topi (y := 0) (nI_pred 0) ?_
  exact x_iret S hr hlk hw (by decide) (by decide) (⟨rfl, rfl⟩) dEV_give_146
