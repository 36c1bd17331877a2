set_option maxHeartbeats 4000000 in
set_option maxRecDepth 100000 in
theorem lp_mkC {p : Program} {l : Launch} {e : Env} {s : State} {m : MethodId} {args : Array Value} {below : List Frame} {meth : Method} {c : Code} {Q : State → Prop} {D : va_G} {A : Nat → Prop} {cI cZ cV : ClassId} {H0 : Heap} {R : Room} {cells slots : Nat} (hR : R = (xR 2 0 0)) (hC : cells = 0 ∧ slots = 0) (S : CallFix p m c cSP_make 7 s args xAll "EscrowedVersions$Splitting") (q : Nat) (q1 : Nat) (q2 : Nat) (qc : Nat) (qr : Nat) (sh : Nat → Int32) (C : Nat → Int32) (ring : Nat → Int32) (w : Int32) (o5 : Int32) (t1 : Nat) (n0 : Nat) (f : Nat) (b0 : Nat) (c0 : Nat) (ht : t1 ≤ 7)
    (kk : ∀ (ls : Array Slot) (H : Heap) (locs : List Loc), xW D (xT3 cI cZ cV) A H0 H locs [(q, .inr (3, [.ref q1, .ref q2, .int (nI n0)])), (q1, .inl (cI, 9, .inl sh)), (q2, .inl (cI, 8, .inl (ciF C ring f b0 t1))), (qc, .inr (0, [.ref qr, .int (nI ((f + (b0 + t1)) % 64)), .int (nI (c0 + 0))])), (qr, .inl (cI, 64, .inl (tkR ring f (b0 + t1))))] s → lv_has ls 7 [(0, .ref q), (1, .int w), (2, .int (nI (t1 + 1))), (3, .int (nI n0)), (4, .ref qc), (5, .int o5), (6, .int (nI (t1 + 1)))] → W p l e R s m args below meth c H locs cells slots Q (F0 m 65 ls [])) :
    ∀ (n k : Nat) (ls : Array Slot) (H : Heap) (locs : List Loc), k + n = t1 → xW D (xT3 cI cZ cV) A H0 H locs [(q, .inr (3, [.ref q1, .ref q2, .int (nI n0)])), (q1, .inl (cI, 9, .inl sh)), (q2, .inl (cI, 8, .inl (ciF C ring f b0 k))), (qc, .inr (0, [.ref qr, .int (nI ((f + (b0 + k)) % 64)), .int (nI (c0 + n))])), (qr, .inl (cI, 64, .inl (tkR ring f (b0 + k))))] s → lv_has ls 7 [(0, .ref q), (1, .int w), (2, .int (nI (t1 + 1))), (3, .int (nI n0)), (4, .ref qc), (5, .int o5), (6, .int (nI (k + 1)))] → W p l e R s m args below meth c H locs cells slots Q (F0 m 41 ls []) := by
  obtain ⟨hx, hb, hml, hown, hts⟩ := id S
  subst hR
  obtain ⟨rfl, rfl⟩ := hC
  intro n
  induction n with
  | zero =>
    intro k ls H locs hk hw hl
    obtain rfl : t1 = k := by omega
    refine lv_iload hx hb dSP_make_41 (lv_at hl 6 rfl) ?_
    refine lv_iload_n hx hb dSP_make_43 rfl (lv_at hl 2 rfl) ?_
    refine lv_icmp_ge (tgt := 65) hx hb dSP_make_44 (by decide) (fun h44 => ?_) (fun h44 => absurd (nI_le (Nat.le_refl _) (by omega)) h44)
    exact kk ls H locs hw (lv_sub hl [0, 1, 2, 3, 4, 5, 6] rfl)
  | succ n ih =>
    intro k ls H locs hk hw hl
    have hkN : k < t1 := by omega
    refine lv_iload hx hb dSP_make_41 (lv_at hl 6 rfl) ?_
    refine lv_iload_n hx hb dSP_make_43 rfl (lv_at hl 2 rfl) ?_
    refine lv_icmp_ge (tgt := 65) hx hb dSP_make_44 (by decide) (fun h44 => absurd h44 (nI_ge (by omega) (by omega))) (fun h44 => ?_)
    refine lv_aload_n hx hb dSP_make_47 rfl (lv_at hl 0 rfl) ?_
    refine x_get S hw (C := RSP) (T := TSP) (N := 3) inSP 0 rfl rfl 1 (by decide) xh_1_87 (v := .ref q2) rfl dSP_make_48 ?_
    refine lv_iload hx hb dSP_make_51 (lv_at hl 6 rfl) ?_
    refine lv_aload hx hb dSP_make_53 (lv_at hl 4 rfl) ?_
    refine x_calliD (ws' := [(q, .inr (3, [.ref q1, .ref q2, .int (nI n0)])), (q1, .inl (cI, 9, .inl sh)), (q2, .inl (cI, 8, .inl (ciF C ring f b0 k))), (qc, .inr (0, [.ref qr, .int (nI ((((f + (b0 + k)) % 64) + 1) % 64)), .int (nI (c0 + n))])), (qr, .inl (cI, 64, .inl (upd (tkR ring f (b0 + k)) ((f + (b0 + k)) % 64) 0)))]) hw [3, 4] rfl rfl (x_runV (n := 0) (rest := [.int (nI (k + 1)), .ref q2]) (As := []) S hw (k_take l D cI cZ cV qc qr (tkR ring f (b0 + k)) ((f + (b0 + k)) % 64) (c0 + n) (Nat.mod_lt _ (by decide)) _) xh_1_162 xh_2_5 xh_1_160 xh_1_161 xh_1_2 (by decide +kernel) ⟨by decide, by decide⟩ [3, 4] rfl rfl (ci := 0) (q0 := 3) rfl rfl rfl hl.1 rfl (Nat.le_of_ble_eq_true rfl) dSP_make_55 ⟨by decide, by decide⟩) rfl rfl (fun H locs hw => ?_)
    refine x_iast S hw 2 0 rfl rfl (j := (k + 1)) (vp_in_nI (by omega) (by omega)) (nI_clamp (by omega)) (ws' := [(q, .inr (3, [.ref q1, .ref q2, .int (nI n0)])), (q1, .inl (cI, 9, .inl sh)), (q2, .inl (cI, 8, .inl (upd (ciF C ring f b0 k) (k + 1) ((tkR ring f (b0 + k)) ((f + (b0 + k)) % 64))))), (qc, .inr (0, [.ref qr, .int (nI ((((f + (b0 + k)) % 64) + 1) % 64)), .int (nI (c0 + n))])), (qr, .inl (cI, 64, .inl (upd (tkR ring f (b0 + k)) ((f + (b0 + k)) % 64) 0)))]) rfl dSP_make_58 (fun H locs hw => ?_)
    refine lv_iinc (v := nI ((k + 1) + 1)) (lv' := [(6, .int (nI ((k + 1) + 1))), (0, .ref q), (1, .int w), (2, .int (nI (t1 + 1))), (3, .int (nI n0)), (4, .ref qc), (5, .int o5)]) hx hb dSP_make_59 hl (k := 6) rfl ((nI_succ _).symm) (by decide) rfl (fun ls hl => ?_)
    refine lv_goto (tgt := 41) hx hb dSP_make_62 (by decide) ?_
    have e0 : ciF C ring f b0 (k + 1) = upd (ciF C ring f b0 k) (k + 1) ((tkR ring f (b0 + k)) ((f + (b0 + k)) % 64)) := by simp only [ciF]
    have e1 : nI ((f + (b0 + (k + 1))) % 64) = nI ((((f + (b0 + k)) % 64) + 1) % 64) := by rw [show (f + (b0 + (k + 1))) % 64 = ((f + (b0 + k)) % 64 + 1) % 64 by omega]
    have e2 : tkR ring f (b0 + (k + 1)) = upd (tkR ring f (b0 + k)) ((f + (b0 + k)) % 64) 0 := by rfl
    refine ih (k + 1) ls H locs (by omega) ?_ ?_
    · rw [e0, e1, e2]; exact hw
    · exact lv_sub hl [1, 2, 3, 4, 5, 6, 0] rfl

set_option maxHeartbeats 4000000 in
set_option maxRecDepth 100000 in
theorem lp_mkS {p : Program} {l : Launch} {e : Env} {s : State} {m : MethodId} {args : Array Value} {below : List Frame} {meth : Method} {c : Code} {Q : State → Prop} {D : va_G} {A : Nat → Prop} {cI cZ cV : ClassId} {H0 : Heap} {R : Room} {cells slots : Nat} (hR : R = (xR 2 0 0)) (hC : cells = 0 ∧ slots = 0) (S : CallFix p m c cSP_make 7 s args xAll "EscrowedVersions$Splitting") (q : Nat) (q1 : Nat) (q2 : Nat) (qc : Nat) (qr : Nat) (sh : Nat → Int32) (C : Nat → Int32) (ring : Nat → Int32) (w : Int32) (o5 : Int32) (fi : Int32) (ci : Int32) (t1 : Nat) (n0 : Nat) (ht : t1 ≤ 7) (hn : n0 ≤ 8)
    (kk : ∀ (ls : Array Slot) (H : Heap) (locs : List Loc), xW D (xT3 cI cZ cV) A H0 H locs [(q, .inr (3, [.ref q1, .ref q2, .int (nI n0)])), (q1, .inl (cI, 9, .inl (shF sh C (t1 + 1) n0))), (q2, .inl (cI, 8, .inl C)), (qc, .inr (0, [.ref qr, .int fi, .int ci])), (qr, .inl (cI, 64, .inl ring))] s → lv_has ls 7 [(0, .ref q), (1, .int w), (2, .int (nI (t1 + 1))), (3, .int (nI n0)), (4, .ref qc), (5, .int o5), (6, .int (nI (n0 + 1)))] → W p l e R s m args below meth c H locs cells slots Q (F0 m 105 ls [])) :
    ∀ (n k : Nat) (ls : Array Slot) (H : Heap) (locs : List Loc), k + n = n0 → xW D (xT3 cI cZ cV) A H0 H locs [(q, .inr (3, [.ref q1, .ref q2, .int (nI n0)])), (q1, .inl (cI, 9, .inl (shF sh C (t1 + 1) k))), (q2, .inl (cI, 8, .inl C)), (qc, .inr (0, [.ref qr, .int fi, .int ci])), (qr, .inl (cI, 64, .inl ring))] s → lv_has ls 7 [(0, .ref q), (1, .int w), (2, .int (nI (t1 + 1))), (3, .int (nI n0)), (4, .ref qc), (5, .int o5), (6, .int (nI (k + 1)))] → W p l e R s m args below meth c H locs cells slots Q (F0 m 68 ls []) := by
  obtain ⟨hx, hb, hml, hown, hts⟩ := id S
  subst hR
  obtain ⟨rfl, rfl⟩ := hC
  intro n
  induction n with
  | zero =>
    intro k ls H locs hk hw hl
    obtain rfl : n0 = k := by omega
    refine lv_iload hx hb dSP_make_68 (lv_at hl 6 rfl) ?_
    refine lv_iload_n hx hb dSP_make_70 rfl (lv_at hl 3 rfl) ?_
    refine lv_icmp_gt (tgt := 105) hx hb dSP_make_71 (by decide) (fun h71 => ?_) (fun h71 => absurd (nI_lt (by omega) (by omega)) h71)
    exact kk ls H locs hw (lv_sub hl [0, 1, 2, 3, 4, 5, 6] rfl)
  | succ n ih =>
    intro k ls H locs hk hw hl
    have hkN : k < n0 := by omega
    refine lv_iload hx hb dSP_make_68 (lv_at hl 6 rfl) ?_
    refine lv_iload_n hx hb dSP_make_70 rfl (lv_at hl 3 rfl) ?_
    refine lv_icmp_gt (tgt := 105) hx hb dSP_make_71 (by decide) (fun h71 => absurd h71 (nI_nlt (by omega) (by omega))) (fun h71 => ?_)
    refine lv_aload_n hx hb dSP_make_74 rfl (lv_at hl 0 rfl) ?_
    refine x_get S hw (C := RSP) (T := TSP) (N := 3) inSP 0 rfl rfl 0 (by decide) xh_1_84 (v := .ref q1) rfl dSP_make_75 ?_
    refine lv_iload hx hb dSP_make_78 (lv_at hl 6 rfl) ?_
    refine lv_aload_n hx hb dSP_make_80 rfl (lv_at hl 0 rfl) ?_
    refine x_get S hw (C := RSP) (T := TSP) (N := 3) inSP 0 rfl rfl 0 (by decide) xh_1_84 (v := .ref q1) rfl dSP_make_81 ?_
    refine lv_iload hx hb dSP_make_84 (lv_at hl 6 rfl) ?_
    refine x_iald S hw 1 0 rfl rfl (j := (k + 1)) (vp_in_nI (by omega) (by omega)) (nI_clamp (by omega)) dSP_make_86 ?_
    refine lv_bipush (v := 8) hx hb dSP_make_87 (by decide) ?_
    refine lv_ishl hx hb dSP_make_89 ?_
    refine lv_aload_n hx hb dSP_make_90 rfl (lv_at hl 0 rfl) ?_
    refine lv_iload hx hb dSP_make_91 (lv_at hl 6 rfl) ?_
    refine lv_iload_n hx hb dSP_make_93 rfl (lv_at hl 2 rfl) ?_
    refine x_calliD (ws' := [(q, .inr (3, [.ref q1, .ref q2, .int (nI n0)])), (q1, .inl (cI, 9, .inl (shF sh C (t1 + 1) k))), (q2, .inl (cI, 8, .inl C)), (qc, .inr (0, [.ref qr, .int fi, .int ci])), (qr, .inl (cI, 64, .inl ring))]) hw [0, 1, 2] rfl rfl (x_runV (n := 2) (rest := [.int (((shF sh C (t1 + 1) k) (k + 1)) <<< ((8 : Int32) &&& 31)), .int (nI (k + 1)), .ref q1]) (As := [.int (nI (k + 1)), .int (nI (t1 + 1))]) S hw (k_value l D cI cZ cV q q1 q2 (shF sh C (t1 + 1) k) C (nI n0) (nI (k + 1)) (t1 + 1) (by omega) _) xh_2_9 xh_2_6 xh_2_8 xsel_SP_valueAt xh_1_5 (by decide +kernel) ⟨by decide, by decide⟩ [0, 1, 2] rfl rfl (ci := 3) (q0 := 0) rfl rfl rfl hl.1 rfl (Nat.le_of_ble_eq_true rfl) dSP_make_94 ⟨by decide, by decide⟩) rfl rfl (fun H locs hw => ?_)
    refine lv_ior hx hb dSP_make_97 ?_
    refine x_iast S hw 1 0 rfl rfl (j := (k + 1)) (vp_in_nI (by omega) (by omega)) (nI_clamp (by omega)) (ws' := [(q, .inr (3, [.ref q1, .ref q2, .int (nI n0)])), (q1, .inl (cI, 9, .inl (upd (shF sh C (t1 + 1) k) (k + 1) ((((shF sh C (t1 + 1) k) (k + 1)) <<< ((8 : Int32) &&& 31)) ||| (vaF C (nI (k + 1)) (t1 + 1) (t1 + 1)))))), (q2, .inl (cI, 8, .inl C)), (qc, .inr (0, [.ref qr, .int fi, .int ci])), (qr, .inl (cI, 64, .inl ring))]) rfl dSP_make_98 (fun H locs hw => ?_)
    refine lv_iinc (v := nI ((k + 1) + 1)) (lv' := [(6, .int (nI ((k + 1) + 1))), (0, .ref q), (1, .int w), (2, .int (nI (t1 + 1))), (3, .int (nI n0)), (4, .ref qc), (5, .int o5)]) hx hb dSP_make_99 hl (k := 6) rfl ((nI_succ _).symm) (by decide) rfl (fun ls hl => ?_)
    refine lv_goto (tgt := 68) hx hb dSP_make_102 (by decide) ?_
    have e0 : shF sh C (t1 + 1) (k + 1) = upd (shF sh C (t1 + 1) k) (k + 1) ((((shF sh C (t1 + 1) k) (k + 1)) <<< ((8 : Int32) &&& 31)) ||| (vaF C (nI (k + 1)) (t1 + 1) (t1 + 1))) := by simp only [shF]
    refine ih (k + 1) ls H locs (by omega) ?_ ?_
    · rw [e0]; exact hw
    · exact lv_sub hl [1, 2, 3, 4, 5, 6, 0] rfl

set_option maxHeartbeats 4000000 in
set_option maxRecDepth 100000 in
theorem lp_mk {p : Program} {l : Launch} {e : Env} {s : State} {m : MethodId} {args : Array Value} {below : List Frame} {meth : Method} {c : Code} {Q : State → Prop} {D : va_G} {A : Nat → Prop} {cI cZ cV : ClassId} {H0 : Heap} {R : Room} {cells slots : Nat} (hR : R = (xR 2 0 0)) (hC : cells = 0 ∧ slots = 0) (S : CallFix p m c cSP_make 7 s args xAll "EscrowedVersions$Splitting") (q : Nat) (q1 : Nat) (q2 : Nat) (qc : Nat) (qr : Nat) (sh : Nat → Int32) (C : Nat → Int32) (ring : Nat → Int32) (w : Int32) (t1 : Nat) (n0 : Nat) (f : Nat) (c0 : Nat) (ht : t1 ≤ 7) (hn : n0 ≤ 8)
    (kk : ∀ (ls : Array Slot) (H : Heap) (locs : List Loc), xW D (xT3 cI cZ cV) A H0 H locs [(q, .inr (3, [.ref q1, .ref q2, .int (nI n0)])), (q1, .inl (cI, 9, .inl ((mkG sh C ring f t1 n0 w 4).1))), (q2, .inl (cI, 8, .inl ((mkG sh C ring f t1 n0 w 4).2))), (qc, .inr (0, [.ref qr, .int (nI ((f + 4 * t1) % 64)), .int (nI (c0 + 0 * t1))])), (qr, .inl (cI, 64, .inl (tkR ring f (4 * t1))))] s → lv_has ls 7 [(0, .ref q), (1, .int w), (2, .int (nI (t1 + 1))), (3, .int (nI n0)), (4, .ref qc), (5, .int (nI 0 + (-1)))] → W p l e R s m args below meth c H locs cells slots Q (F0 m 111 ls [])) :
    ∀ (n k : Nat) (ls : Array Slot) (H : Heap) (locs : List Loc), k + n = 4 → xW D (xT3 cI cZ cV) A H0 H locs [(q, .inr (3, [.ref q1, .ref q2, .int (nI n0)])), (q1, .inl (cI, 9, .inl ((mkG sh C ring f t1 n0 w k).1))), (q2, .inl (cI, 8, .inl ((mkG sh C ring f t1 n0 w k).2))), (qc, .inr (0, [.ref qr, .int (nI ((f + k * t1) % 64)), .int (nI (c0 + n * t1))])), (qr, .inl (cI, 64, .inl (tkR ring f (k * t1))))] s → lv_has ls 7 [(0, .ref q), (1, .int w), (2, .int (nI (t1 + 1))), (3, .int (nI n0)), (4, .ref qc), (5, .int (nI n + (-1)))] → W p l e R s m args below meth c H locs cells slots Q (F0 m 16 ls []) := by
  obtain ⟨hx, hb, hml, hown, hts⟩ := id S
  subst hR
  obtain ⟨rfl, rfl⟩ := hC
  intro n
  induction n with
  | zero =>
    intro k ls H locs hk hw hl
    obtain rfl : 4 = k := by omega
    refine lv_iload hx hb dSP_make_16 (lv_at hl 5 rfl) ?_
    refine lv_if_lt (tgt := 111) hx hb dSP_make_18 (by decide) (fun h18 => ?_) (fun h18 => absurd (by decide +kernel) h18)
    exact kk ls H locs hw (lv_sub hl [0, 1, 2, 3, 4, 5] rfl)
  | succ n ih =>
    intro k ls H locs hk hw hl
    have hkN : k < 4 := by omega
    have hl : lv_has ls 7 [(0, .ref q), (1, .int w), (2, .int (nI (t1 + 1))), (3, .int (nI n0)), (4, .ref qc), (5, .int (nI n))] := by rw [pk_m1] at hl; exact hl
    refine lv_iload hx hb dSP_make_16 (lv_at hl 5 rfl) ?_
    refine lv_if_lt (tgt := 111) hx hb dSP_make_18 (by decide) (fun h18 => absurd h18 (nI_pos (by omega))) (fun h18 => ?_)
    refine lv_aload_n hx hb dSP_make_21 rfl (lv_at hl 0 rfl) ?_
    refine x_get S hw (C := RSP) (T := TSP) (N := 3) inSP 0 rfl rfl 1 (by decide) xh_1_87 (v := .ref q2) rfl dSP_make_22 ?_
    refine lv_iconst (v := 0) hx hb dSP_make_25 (by decide) ?_
    refine lv_iload_n hx hb dSP_make_26 rfl (lv_at hl 1 rfl) ?_
    refine lv_bipush (v := 8) hx hb dSP_make_27 (by decide) ?_
    refine lv_iload hx hb dSP_make_29 (lv_at hl 5 rfl) ?_
    refine lv_imul hx hb dSP_make_31 ?_
    refine lv_iushr (v := (xushr w (8 * nI n))) hx hb dSP_make_32 rfl ?_
    refine lv_sipush (v := 255) hx hb dSP_make_33 (by decide) ?_
    refine lv_iand hx hb dSP_make_36 ?_
    refine x_iast S hw 2 0 rfl rfl (j := 0) (vp_in_nI (n := 0) (by decide) (by decide)) (nI_clamp (n := 0) (by decide)) (ws' := [(q, .inr (3, [.ref q1, .ref q2, .int (nI n0)])), (q1, .inl (cI, 9, .inl ((mkG sh C ring f t1 n0 w k).1))), (q2, .inl (cI, 8, .inl (upd ((mkG sh C ring f t1 n0 w k).2) 0 ((xushr w (8 * nI n)) &&& 255)))), (qc, .inr (0, [.ref qr, .int (nI ((f + k * t1) % 64)), .int (nI (c0 + (n + 1) * t1))])), (qr, .inl (cI, 64, .inl (tkR ring f (k * t1))))]) rfl dSP_make_37 (fun H locs hw => ?_)
    refine lv_iconst (v := 1) hx hb dSP_make_38 (by decide) ?_
    refine lv_istore (lv' := [(6, .int 1), (0, .ref q), (1, .int w), (2, .int (nI (t1 + 1))), (3, .int (nI n0)), (4, .ref qc), (5, .int (nI n))]) hx hb dSP_make_39 hl (by decide) rfl (fun ls hl => ?_)
    rw [show c0 + (n + 1) * t1 = (c0 + n * t1) + t1 by rw [Nat.succ_mul, Nat.add_assoc]] at hw
    refine lp_mkC rfl ⟨rfl, rfl⟩ S q q1 q2 qc qr ((mkG sh C ring f t1 n0 w k).1) (upd (mkG sh C ring f t1 n0 w k).2 0 (xushr w (8 * nI n) &&& 255)) ring w (nI n) t1 n0 f (k * t1) (c0 + n * t1) ht (fun ls H locs hw hl => ?_) t1 0 ls _ _ (Nat.zero_add _) hw (lv_sub hl [1, 2, 3, 4, 5, 6, 0] rfl)
    refine lv_iconst (v := 1) hx hb dSP_make_65 (by decide) ?_
    refine lv_istore (lv' := [(6, .int 1), (0, .ref q), (1, .int w), (2, .int (nI (t1 + 1))), (3, .int (nI n0)), (4, .ref qc), (5, .int (nI n))]) hx hb dSP_make_66 hl (by decide) rfl (fun ls hl => ?_)
    refine lp_mkS rfl ⟨rfl, rfl⟩ S q q1 q2 qc qr ((mkG sh C ring f t1 n0 w k).1) (ciF (upd (mkG sh C ring f t1 n0 w k).2 0 (xushr w (8 * nI n) &&& 255)) ring f (k * t1) t1) (tkR ring f (k * t1 + t1)) w (nI n) (nI ((f + (k * t1 + t1)) % 64)) (nI (c0 + n * t1 + 0)) t1 n0 ht hn (fun ls H locs hw hl => ?_) n0 0 ls _ _ (Nat.zero_add _) hw (lv_sub hl [1, 2, 3, 4, 5, 6, 0] rfl)
    refine lv_iinc (v := (nI n) + (-1)) (lv' := [(5, .int ((nI n) + (-1))), (0, .ref q), (1, .int w), (2, .int (nI (t1 + 1))), (3, .int (nI n0)), (4, .ref qc), (6, .int (nI (n0 + 1)))]) hx hb dSP_make_105 hl (k := 5) rfl (by rw [show Int32.ofInt (-1) = (-1 : Int32) by decide]) (by decide) rfl (fun ls hl => ?_)
    refine lv_goto (tgt := 16) hx hb dSP_make_108 (by decide) ?_
    have e0 : nI n + (-1) = (nI n) + (-1) := by simp only []
    have e1 : (mkG sh C ring f t1 n0 w (k + 1)).1 = shF ((mkG sh C ring f t1 n0 w k).1) (ciF (upd (mkG sh C ring f t1 n0 w k).2 0 (xushr w (8 * nI n) &&& 255)) ring f (k * t1) t1) (t1 + 1) n0 := by simp only [mkG]; rw [show 3 - k = n by omega]
    have e2 : (mkG sh C ring f t1 n0 w (k + 1)).2 = ciF (upd (mkG sh C ring f t1 n0 w k).2 0 (xushr w (8 * nI n) &&& 255)) ring f (k * t1) t1 := by simp only [mkG]; rw [show 3 - k = n by omega]
    have e3 : nI ((f + (k + 1) * t1) % 64) = nI ((f + (k * t1 + t1)) % 64) := by rw [Nat.succ_mul]
    have e4 : nI (c0 + n * t1) = nI (c0 + n * t1 + 0) := by rfl
    have e5 : tkR ring f ((k + 1) * t1) = tkR ring f (k * t1 + t1) := by rw [Nat.succ_mul]
    refine ih (k + 1) ls H locs (by omega) ?_ ?_
    · rw [e1, e2, e3, e4, e5]; exact hw
    · rw [e0]; exact lv_sub hl [1, 2, 3, 4, 5, 0] rfl

set_option maxHeartbeats 4000000 in
set_option maxRecDepth 100000 in
theorem k_make (l : Launch) (D : va_G) (cI cZ cV : ClassId) (q : Nat) (q1 : Nat) (q2 : Nat) (qc : Nat) (qr : Nat) (sh : Nat → Int32) (C : Nat → Int32) (ring : Nat → Int32) (w : Int32) (n9 : Int32) (t1 : Nat) (n0 : Nat) (f : Nat) (c0 : Nat) (ht : t1 ≤ 7) (hn : n0 ≤ 8) (hf : f < 64) : XV l ySP_make cSP_make 7 none D (xT3 cI cZ cV) 2 0 0 [.ref q, .int w, .int (nI (t1 + 1)), .int (nI n0), .ref qc] [(q, .inr (3, [.ref q1, .ref q2, .int n9])), (q1, .inl (cI, 9, .inl sh)), (q2, .inl (cI, 8, .inl C)), (qc, .inr (0, [.ref qr, .int (nI f), .int (nI (c0 + 4 * t1))])), (qr, .inl (cI, 64, .inl ring))] (fun u => u = [(q, .inr (3, [.ref q1, .ref q2, .int (nI n0)])), (q1, .inl (cI, 9, .inl ((mkG (flF sh 0 9) C ring f t1 n0 w 4).1))), (q2, .inl (cI, 8, .inl (flF (mkG (flF sh 0 9) C ring f t1 n0 w 4).2 0 8))), (qc, .inr (0, [.ref qr, .int (nI ((f + 4 * t1) % 64)), .int (nI c0)])), (qr, .inl (cI, 64, .inl (tkR ring f (4 * t1))))]) := by
  intro sz
  refine x_ofW (Qc := fun A => va_Qv _ (xB D A) A) sz (by decide) (Nat.le_of_ble_eq_true rfl) ?_
  intro p e s m args below meth c A ls S hr hlk hnm hw hl
  obtain ⟨hx, hb, hml, hown, hts⟩ := id S
  have hl : lv_has ls 7 [(0, .ref q), (1, .int w), (2, .int (nI (t1 + 1))), (3, .int (nI n0)), (4, .ref qc)] := hl
  refine lv_aload_n hx hb dSP_make_0 rfl (lv_at hl 0 rfl) ?_
  refine x_get S hw (C := RSP) (T := TSP) (N := 3) inSP 0 rfl rfl 0 (by decide) xh_1_84 (v := .ref q1) rfl dSP_make_1 ?_
  refine lv_iconst (v := 0) hx hb dSP_make_4 (by decide) ?_
  refine x_callvD (ws' := [(q, .inr (3, [.ref q1, .ref q2, .int n9])), (q1, .inl (cI, 9, .inl (flF sh 0 9))), (q2, .inl (cI, 8, .inl C)), (qc, .inr (0, [.ref qr, .int (nI f), .int (nI (c0 + 4 * t1))])), (qr, .inl (cI, 64, .inl ring))]) hw [1] rfl rfl (x_runS (n := 2) (rest := []) (As := [.ref q1, .int 0]) S hw (k_fill l D cI cZ cV q1 9 sh 0 (by decide) _) xh_1_228 xh_2_4 xh_1_227 xh_1_9 (by decide +kernel) ⟨by decide, by decide⟩ [1] rfl rfl rfl hl.1 rfl (Nat.le_of_ble_eq_true rfl) dSP_make_5 ⟨by decide, by decide⟩) rfl rfl (fun H locs hw => ?_)
  refine lv_aload_n hx hb dSP_make_8 rfl (lv_at hl 0 rfl) ?_
  refine lv_iload_n hx hb dSP_make_9 rfl (lv_at hl 3 rfl) ?_
  refine x_put S hw (C := RSP) (T := TSP) (N := 3) inSP tySP tySP_ok nmSP 0 rfl rfl 2 (by decide) xh_1_88 rfl (v := .int (nI n0)) rfl rfl (Nat.le_of_ble_eq_true rfl) (ws' := [(q, .inr (3, [.ref q1, .ref q2, .int (nI n0)])), (q1, .inl (cI, 9, .inl (flF sh 0 9))), (q2, .inl (cI, 8, .inl C)), (qc, .inr (0, [.ref qr, .int (nI f), .int (nI (c0 + 4 * t1))])), (qr, .inl (cI, 64, .inl ring))]) rfl dSP_make_10 (fun H locs hw => ?_)
  refine lv_iconst (v := 3) hx hb dSP_make_13 (by decide) ?_
  refine lv_istore (lv' := [(5, .int 3), (0, .ref q), (1, .int w), (2, .int (nI (t1 + 1))), (3, .int (nI n0)), (4, .ref qc)]) hx hb dSP_make_14 hl (by decide) rfl (fun ls hl => ?_)
  have hw : xW D (xT3 cI cZ cV) A s.heap H locs [(q, .inr (3, [.ref q1, .ref q2, .int (nI n0)])), (q1, .inl (cI, 9, .inl ((mkG (flF sh 0 9) C ring f t1 n0 w 0).1))), (q2, .inl (cI, 8, .inl ((mkG (flF sh 0 9) C ring f t1 n0 w 0).2))), (qc, .inr (0, [.ref qr, .int (nI ((f + 0 * t1) % 64)), .int (nI (c0 + 4 * t1))])), (qr, .inl (cI, 64, .inl (tkR ring f (0 * t1))))] s := by rw [Nat.zero_mul, Nat.add_zero, Nat.mod_eq_of_lt hf]; exact hw
  refine lp_mk rfl ⟨rfl, rfl⟩ S q q1 q2 qc qr (flF sh 0 9) C ring w t1 n0 f c0 ht hn (fun ls H locs hw hl => ?_) 4 0 ls _ _ (Nat.zero_add _) hw (lv_sub hl [1, 2, 3, 4, 5, 0] rfl)
  rw [Nat.zero_mul, Nat.add_zero] at hw
  refine lv_aload_n hx hb dSP_make_111 rfl (lv_at hl 0 rfl) ?_
  refine x_get S hw (C := RSP) (T := TSP) (N := 3) inSP 0 rfl rfl 1 (by decide) xh_1_87 (v := .ref q2) rfl dSP_make_112 ?_
  refine lv_iconst (v := 0) hx hb dSP_make_115 (by decide) ?_
  refine x_callvD (ws' := [(q, .inr (3, [.ref q1, .ref q2, .int (nI n0)])), (q1, .inl (cI, 9, .inl ((mkG (flF sh 0 9) C ring f t1 n0 w 4).1))), (q2, .inl (cI, 8, .inl (flF ((mkG (flF sh 0 9) C ring f t1 n0 w 4).2) 0 8))), (qc, .inr (0, [.ref qr, .int (nI ((f + 4 * t1) % 64)), .int (nI c0)])), (qr, .inl (cI, 64, .inl (tkR ring f (4 * t1))))]) hw [2] rfl rfl (x_runS (n := 2) (rest := []) (As := [.ref q2, .int 0]) S hw (k_fill l D cI cZ cV q2 8 ((mkG (flF sh 0 9) C ring f t1 n0 w 4).2) 0 (by decide) _) xh_1_228 xh_2_4 xh_1_227 xh_1_9 (by decide +kernel) ⟨by decide, by decide⟩ [2] rfl rfl rfl hl.1 rfl (Nat.le_of_ble_eq_true rfl) dSP_make_116 ⟨by decide, by decide⟩) rfl rfl (fun H locs hw => ?_)
  exact x_vret S hr hlk hw (by decide) (by decide) (rfl) dSP_make_119

set_option maxHeartbeats 4000000 in
set_option maxRecDepth 100000 in
theorem k_escrow (l : Launch) (D : va_G) (cI cZ cV : ClassId) (q : Nat) (q1 : Nat) (q2 : Nat) (dg : Nat → Int32) (gs : Nat → Int32) (num : Int32) (stt : Int32) (sec : Int32) (lk : Int32) (th : Int32) (sc : Int32) (gset : Int32) (gc : Int32) : XI l yVE_escrow cVE_escrow 1 (some .int) D (xT3 cI cZ cV) 0 0 0 [.ref q] [(q, .inr (4, [.int num, .ref q1, .ref q2, .int stt, .int sec, .int lk, .int th, .int sc, .int gset, .int gc])), (q1, .inl (cI, 9, .inl dg)), (q2, .inl (cI, 9, .inl gs))] (fun r u => r = 16 * th + sc ∧ u = [(q, .inr (4, [.int num, .ref q1, .ref q2, .int stt, .int sec, .int lk, .int th, .int sc, .int gset, .int gc])), (q1, .inl (cI, 9, .inl dg)), (q2, .inl (cI, 9, .inl gs))]) := by
  intro sz
  refine x_ofW (Qc := fun A => va_Qi _ (xB D A) A) sz (by decide) (Nat.le_of_ble_eq_true rfl) ?_
  intro p e s m args below meth c A ls S hr hlk hnm hw hl
  obtain ⟨hx, hb, hml, hown, hts⟩ := id S
  have hl : lv_has ls 1 [(0, .ref q)] := hl
  refine lv_bipush (v := 16) hx hb dVE_escrow_0 (by decide) ?_
  refine lv_aload_n hx hb dVE_escrow_2 rfl (lv_at hl 0 rfl) ?_
  refine x_get S hw (C := RVE) (T := TVE) (N := 10) inVE 0 rfl rfl 6 (by decide) xh_1_177 (v := .int th) rfl dVE_escrow_3 ?_
  refine lv_imul hx hb dVE_escrow_6 ?_
  refine lv_aload_n hx hb dVE_escrow_7 rfl (lv_at hl 0 rfl) ?_
  refine x_get S hw (C := RVE) (T := TVE) (N := 10) inVE 0 rfl rfl 7 (by decide) xh_1_179 (v := .int sc) rfl dVE_escrow_8 ?_
  refine lv_iadd hx hb dVE_escrow_11 ?_
  exact x_iret S hr hlk hw (by decide) (by decide) (⟨rfl, rfl⟩) dVE_escrow_12

set_option maxHeartbeats 4000000 in
set_option maxRecDepth 100000 in
theorem k_fgiv (l : Launch) (D : va_G) (cI cZ cV : ClassId) (q : Nat) (q1 : Nat) (q2 : Nat) (dg : Nat → Int32) (gs : Nat → Int32) (num : Int32) (stt : Int32) (sec : Int32) (lk : Int32) (th : Int32) (sc : Int32) (gset : Int32) (gc : Int32) : XV l yVE_forgetGiven cVE_forgetGiven 1 none D (xT3 cI cZ cV) 1 0 0 [.ref q] [(q, .inr (4, [.int num, .ref q1, .ref q2, .int stt, .int sec, .int lk, .int th, .int sc, .int gset, .int gc])), (q1, .inl (cI, 9, .inl dg)), (q2, .inl (cI, 9, .inl gs))] (fun u => u = [(q, .inr (4, [.int num, .ref q1, .ref q2, .int stt, .int sec, .int lk, .int th, .int sc, .int 0, .int 0])), (q1, .inl (cI, 9, .inl dg)), (q2, .inl (cI, 9, .inl (flF gs 0 9)))]) := by
  intro sz
  refine x_ofW (Qc := fun A => va_Qv _ (xB D A) A) sz (by decide) (Nat.le_of_ble_eq_true rfl) ?_
  intro p e s m args below meth c A ls S hr hlk hnm hw hl
  obtain ⟨hx, hb, hml, hown, hts⟩ := id S
  have hl : lv_has ls 1 [(0, .ref q)] := hl
  refine lv_aload_n hx hb dVE_forgetGiven_0 rfl (lv_at hl 0 rfl) ?_
  refine lv_iconst (v := 0) hx hb dVE_forgetGiven_1 (by decide) ?_
  refine x_put S hw (C := RVE) (T := TVE) (N := 10) inVE tyVE tyVE_ok nmVE 0 rfl rfl 8 (by decide) xh_1_180 rfl (v := .int 0) rfl rfl (Nat.le_of_ble_eq_true rfl) (ws' := [(q, .inr (4, [.int num, .ref q1, .ref q2, .int stt, .int sec, .int lk, .int th, .int sc, .int 0, .int gc])), (q1, .inl (cI, 9, .inl dg)), (q2, .inl (cI, 9, .inl gs))]) rfl dVE_forgetGiven_2 (fun H locs hw => ?_)
  refine lv_aload_n hx hb dVE_forgetGiven_5 rfl (lv_at hl 0 rfl) ?_
  refine lv_iconst (v := 0) hx hb dVE_forgetGiven_6 (by decide) ?_
  refine x_put S hw (C := RVE) (T := TVE) (N := 10) inVE tyVE tyVE_ok nmVE 0 rfl rfl 9 (by decide) xh_1_182 rfl (v := .int 0) rfl rfl (Nat.le_of_ble_eq_true rfl) (ws' := [(q, .inr (4, [.int num, .ref q1, .ref q2, .int stt, .int sec, .int lk, .int th, .int sc, .int 0, .int 0])), (q1, .inl (cI, 9, .inl dg)), (q2, .inl (cI, 9, .inl gs))]) rfl dVE_forgetGiven_7 (fun H locs hw => ?_)
  refine lv_aload_n hx hb dVE_forgetGiven_10 rfl (lv_at hl 0 rfl) ?_
  refine x_get S hw (C := RVE) (T := TVE) (N := 10) inVE 0 rfl rfl 2 (by decide) xh_1_170 (v := .ref q2) rfl dVE_forgetGiven_11 ?_
  refine lv_iconst (v := 0) hx hb dVE_forgetGiven_14 (by decide) ?_
  refine x_callvD (ws' := [(q, .inr (4, [.int num, .ref q1, .ref q2, .int stt, .int sec, .int lk, .int th, .int sc, .int 0, .int 0])), (q1, .inl (cI, 9, .inl dg)), (q2, .inl (cI, 9, .inl (flF gs 0 9)))]) hw [2] rfl rfl (x_runS (n := 2) (rest := []) (As := [.ref q2, .int 0]) S hw (k_fill l D cI cZ cV q2 9 gs 0 (by decide) _) xh_1_228 xh_1_226 xh_1_227 xh_1_9 (by decide +kernel) ⟨by decide, by decide⟩ [2] rfl rfl rfl hl.1 rfl (Nat.le_of_ble_eq_true rfl) dVE_forgetGiven_15 ⟨by decide, by decide⟩) rfl rfl (fun H locs hw => ?_)
  exact x_vret S hr hlk hw (by decide) (by decide) (rfl) dVE_forgetGiven_18

set_option maxHeartbeats 4000000 in
set_option maxRecDepth 100000 in
theorem k_fall (l : Launch) (D : va_G) (cI cZ cV : ClassId) (q : Nat) (q1 : Nat) (q2 : Nat) (dg : Nat → Int32) (gs : Nat → Int32) (num : Int32) (stt : Int32) (sec : Int32) (lk : Int32) (th : Int32) (sc : Int32) (gset : Int32) (gc : Int32) : XV l yVE_forgetAll cVE_forgetAll 1 none D (xT3 cI cZ cV) 2 0 0 [.ref q] [(q, .inr (4, [.int num, .ref q1, .ref q2, .int stt, .int sec, .int lk, .int th, .int sc, .int gset, .int gc])), (q1, .inl (cI, 9, .inl dg)), (q2, .inl (cI, 9, .inl gs))] (fun u => u = [(q, .inr (4, [.int num, .ref q1, .ref q2, .int 3, .int 0, .int 0, .int 0, .int 0, .int 0, .int 0])), (q1, .inl (cI, 9, .inl (flF dg 0 9))), (q2, .inl (cI, 9, .inl (flF gs 0 9)))]) := by
  intro sz
  refine x_ofW (Qc := fun A => va_Qv _ (xB D A) A) sz (by decide) (Nat.le_of_ble_eq_true rfl) ?_
  intro p e s m args below meth c A ls S hr hlk hnm hw hl
  obtain ⟨hx, hb, hml, hown, hts⟩ := id S
  have hl : lv_has ls 1 [(0, .ref q)] := hl
  refine lv_aload_n hx hb dVE_forgetAll_0 rfl (lv_at hl 0 rfl) ?_
  refine lv_iconst (v := 3) hx hb dVE_forgetAll_1 (by decide) ?_
  refine x_put S hw (C := RVE) (T := TVE) (N := 10) inVE tyVE tyVE_ok nmVE 0 rfl rfl 3 (by decide) xh_1_171 rfl (v := .int 3) rfl rfl (Nat.le_of_ble_eq_true rfl) (ws' := [(q, .inr (4, [.int num, .ref q1, .ref q2, .int 3, .int sec, .int lk, .int th, .int sc, .int gset, .int gc])), (q1, .inl (cI, 9, .inl dg)), (q2, .inl (cI, 9, .inl gs))]) rfl dVE_forgetAll_2 (fun H locs hw => ?_)
  refine lv_aload_n hx hb dVE_forgetAll_5 rfl (lv_at hl 0 rfl) ?_
  refine lv_iconst (v := 0) hx hb dVE_forgetAll_6 (by decide) ?_
  refine x_put S hw (C := RVE) (T := TVE) (N := 10) inVE tyVE tyVE_ok nmVE 0 rfl rfl 4 (by decide) xh_1_173 rfl (v := .int 0) rfl rfl (Nat.le_of_ble_eq_true rfl) (ws' := [(q, .inr (4, [.int num, .ref q1, .ref q2, .int 3, .int 0, .int lk, .int th, .int sc, .int gset, .int gc])), (q1, .inl (cI, 9, .inl dg)), (q2, .inl (cI, 9, .inl gs))]) rfl dVE_forgetAll_7 (fun H locs hw => ?_)
  refine lv_aload_n hx hb dVE_forgetAll_10 rfl (lv_at hl 0 rfl) ?_
  refine lv_iconst (v := 0) hx hb dVE_forgetAll_11 (by decide) ?_
  refine x_put S hw (C := RVE) (T := TVE) (N := 10) inVE tyVE tyVE_ok nmVE 0 rfl rfl 5 (by decide) xh_1_175 rfl (v := .int 0) rfl rfl (Nat.le_of_ble_eq_true rfl) (ws' := [(q, .inr (4, [.int num, .ref q1, .ref q2, .int 3, .int 0, .int 0, .int th, .int sc, .int gset, .int gc])), (q1, .inl (cI, 9, .inl dg)), (q2, .inl (cI, 9, .inl gs))]) rfl dVE_forgetAll_12 (fun H locs hw => ?_)
  refine lv_aload_n hx hb dVE_forgetAll_15 rfl (lv_at hl 0 rfl) ?_
  refine lv_iconst (v := 0) hx hb dVE_forgetAll_16 (by decide) ?_
  refine x_put S hw (C := RVE) (T := TVE) (N := 10) inVE tyVE tyVE_ok nmVE 0 rfl rfl 6 (by decide) xh_1_177 rfl (v := .int 0) rfl rfl (Nat.le_of_ble_eq_true rfl) (ws' := [(q, .inr (4, [.int num, .ref q1, .ref q2, .int 3, .int 0, .int 0, .int 0, .int sc, .int gset, .int gc])), (q1, .inl (cI, 9, .inl dg)), (q2, .inl (cI, 9, .inl gs))]) rfl dVE_forgetAll_17 (fun H locs hw => ?_)
  refine lv_aload_n hx hb dVE_forgetAll_20 rfl (lv_at hl 0 rfl) ?_
  refine lv_iconst (v := 0) hx hb dVE_forgetAll_21 (by decide) ?_
  refine x_put S hw (C := RVE) (T := TVE) (N := 10) inVE tyVE tyVE_ok nmVE 0 rfl rfl 7 (by decide) xh_1_179 rfl (v := .int 0) rfl rfl (Nat.le_of_ble_eq_true rfl) (ws' := [(q, .inr (4, [.int num, .ref q1, .ref q2, .int 3, .int 0, .int 0, .int 0, .int 0, .int gset, .int gc])), (q1, .inl (cI, 9, .inl dg)), (q2, .inl (cI, 9, .inl gs))]) rfl dVE_forgetAll_22 (fun H locs hw => ?_)
  refine lv_aload_n hx hb dVE_forgetAll_25 rfl (lv_at hl 0 rfl) ?_
  refine x_get S hw (C := RVE) (T := TVE) (N := 10) inVE 0 rfl rfl 1 (by decide) xh_1_169 (v := .ref q1) rfl dVE_forgetAll_26 ?_
  refine lv_iconst (v := 0) hx hb dVE_forgetAll_29 (by decide) ?_
  refine x_callvD (ws' := [(q, .inr (4, [.int num, .ref q1, .ref q2, .int 3, .int 0, .int 0, .int 0, .int 0, .int gset, .int gc])), (q1, .inl (cI, 9, .inl (flF dg 0 9))), (q2, .inl (cI, 9, .inl gs))]) hw [1] rfl rfl (x_runS (n := 2) (rest := []) (As := [.ref q1, .int 0]) S hw (k_fill l D cI cZ cV q1 9 dg 0 (by decide) _) xh_1_228 xh_1_226 xh_1_227 xh_1_9 (by decide +kernel) ⟨by decide, by decide⟩ [1] rfl rfl rfl hl.1 rfl (Nat.le_of_ble_eq_true rfl) dVE_forgetAll_30 ⟨by decide, by decide⟩) rfl rfl (fun H locs hw => ?_)
  refine lv_aload_n hx hb dVE_forgetAll_33 rfl (lv_at hl 0 rfl) ?_
  refine x_callvD (ws' := [(q, .inr (4, [.int num, .ref q1, .ref q2, .int 3, .int 0, .int 0, .int 0, .int 0, .int 0, .int 0])), (q1, .inl (cI, 9, .inl (flF dg 0 9))), (q2, .inl (cI, 9, .inl (flF gs 0 9)))]) hw [0, 1, 2] rfl rfl (x_runV (n := 0) (rest := []) (As := []) S hw (k_fgiv l D cI cZ cV q q1 q2 (flF dg 0 9) gs num 3 0 0 0 0 gset gc _) xh_1_232 xh_1_229 xh_1_231 xsel_VE_forgetGiven xh_1_8 (by decide +kernel) ⟨by decide, by decide⟩ [0, 1, 2] rfl rfl (ci := 4) (q0 := 0) rfl rfl rfl hl.1 rfl (Nat.le_of_ble_eq_true rfl) dVE_forgetAll_34 ⟨by decide, by decide⟩) rfl rfl (fun H locs hw => ?_)
  exact x_vret S hr hlk hw (by decide) (by decide) (rfl) dVE_forgetAll_37

set_option maxHeartbeats 4000000 in
set_option maxRecDepth 100000 in
theorem k_close (l : Launch) (D : va_G) (cI cZ cV : ClassId) (q : Nat) (q1 : Nat) (q2 : Nat) (dg : Nat → Int32) (gs : Nat → Int32) (num : Int32) (stt : Int32) (sec : Int32) (lk : Int32) (th : Int32) (sc : Int32) (gset : Int32) (gc : Int32) : XV l yVE_close cVE_close 1 none D (xT3 cI cZ cV) 2 0 0 [.ref q] [(q, .inr (4, [.int num, .ref q1, .ref q2, .int stt, .int sec, .int lk, .int th, .int sc, .int gset, .int gc])), (q1, .inl (cI, 9, .inl dg)), (q2, .inl (cI, 9, .inl gs))] (fun u => u = [(q, .inr (4, [.int num, .ref q1, .ref q2, .int stt, .int 0, .int 1, .int th, .int sc, .int 0, .int 0])), (q1, .inl (cI, 9, .inl dg)), (q2, .inl (cI, 9, .inl (flF gs 0 9)))]) := by
  intro sz
  refine x_ofW (Qc := fun A => va_Qv _ (xB D A) A) sz (by decide) (Nat.le_of_ble_eq_true rfl) ?_
  intro p e s m args below meth c A ls S hr hlk hnm hw hl
  obtain ⟨hx, hb, hml, hown, hts⟩ := id S
  have hl : lv_has ls 1 [(0, .ref q)] := hl
  refine lv_aload_n hx hb dVE_close_0 rfl (lv_at hl 0 rfl) ?_
  refine lv_iconst (v := 1) hx hb dVE_close_1 (by decide) ?_
  refine x_put S hw (C := RVE) (T := TVE) (N := 10) inVE tyVE tyVE_ok nmVE 0 rfl rfl 5 (by decide) xh_1_175 rfl (v := .int 1) rfl rfl (Nat.le_of_ble_eq_true rfl) (ws' := [(q, .inr (4, [.int num, .ref q1, .ref q2, .int stt, .int sec, .int 1, .int th, .int sc, .int gset, .int gc])), (q1, .inl (cI, 9, .inl dg)), (q2, .inl (cI, 9, .inl gs))]) rfl dVE_close_2 (fun H locs hw => ?_)
  refine lv_aload_n hx hb dVE_close_5 rfl (lv_at hl 0 rfl) ?_
  refine lv_iconst (v := 0) hx hb dVE_close_6 (by decide) ?_
  refine x_put S hw (C := RVE) (T := TVE) (N := 10) inVE tyVE tyVE_ok nmVE 0 rfl rfl 4 (by decide) xh_1_173 rfl (v := .int 0) rfl rfl (Nat.le_of_ble_eq_true rfl) (ws' := [(q, .inr (4, [.int num, .ref q1, .ref q2, .int stt, .int 0, .int 1, .int th, .int sc, .int gset, .int gc])), (q1, .inl (cI, 9, .inl dg)), (q2, .inl (cI, 9, .inl gs))]) rfl dVE_close_7 (fun H locs hw => ?_)
  refine lv_aload_n hx hb dVE_close_10 rfl (lv_at hl 0 rfl) ?_
  refine x_callvD (ws' := [(q, .inr (4, [.int num, .ref q1, .ref q2, .int stt, .int 0, .int 1, .int th, .int sc, .int 0, .int 0])), (q1, .inl (cI, 9, .inl dg)), (q2, .inl (cI, 9, .inl (flF gs 0 9)))]) hw [0, 1, 2] rfl rfl (x_runV (n := 0) (rest := []) (As := []) S hw (k_fgiv l D cI cZ cV q q1 q2 dg gs num stt 0 1 th sc gset gc _) xh_1_232 xh_1_229 xh_1_231 xsel_VE_forgetGiven xh_1_8 (by decide +kernel) ⟨by decide, by decide⟩ [0, 1, 2] rfl rfl (ci := 4) (q0 := 0) rfl rfl rfl hl.1 rfl (Nat.le_of_ble_eq_true rfl) dVE_close_11 ⟨by decide, by decide⟩) rfl rfl (fun H locs hw => ?_)
  exact x_vret S hr hlk hw (by decide) (by decide) (rfl) dVE_close_14

set_option maxHeartbeats 4000000 in
set_option maxRecDepth 100000 in
theorem k_isGiven (l : Launch) (D : va_G) (cI cZ cV : ClassId) (q : Nat) (q1 : Nat) (q2 : Nat) (dg : Nat → Int32) (gs : Nat → Int32) (num : Int32) (stt : Int32) (sec : Int32) (lk : Int32) (th : Int32) (sc : Int32) (gset : Int32) (gc : Int32) (i : Int32) : XI l yVE_isGiven cVE_isGiven 2 (some .boolean) D (xT3 cI cZ cV) 0 0 0 [.ref q, .int i] [(q, .inr (4, [.int num, .ref q1, .ref q2, .int stt, .int sec, .int lk, .int th, .int sc, .int gset, .int gc])), (q1, .inl (cI, 9, .inl dg)), (q2, .inl (cI, 9, .inl gs))] (fun r u => r = fGiv gset i ∧ u = [(q, .inr (4, [.int num, .ref q1, .ref q2, .int stt, .int sec, .int lk, .int th, .int sc, .int gset, .int gc])), (q1, .inl (cI, 9, .inl dg)), (q2, .inl (cI, 9, .inl gs))]) := by
  intro sz
  refine x_ofW (Qc := fun A => va_Qi _ (xB D A) A) sz (by decide) (Nat.le_of_ble_eq_true rfl) ?_
  intro p e s m args below meth c A ls S hr hlk hnm hw hl
  obtain ⟨hx, hb, hml, hown, hts⟩ := id S
  have hl : lv_has ls 2 [(0, .ref q), (1, .int i)] := hl
  refine lv_aload_n hx hb dVE_isGiven_0 rfl (lv_at hl 0 rfl) ?_
  refine x_get S hw (C := RVE) (T := TVE) (N := 10) inVE 0 rfl rfl 8 (by decide) xh_1_180 (v := .int gset) rfl dVE_isGiven_1 ?_
  refine lv_iload_n hx hb dVE_isGiven_4 rfl (lv_at hl 1 rfl) ?_
  refine lv_ishr hx hb dVE_isGiven_5 ?_
  refine lv_iconst (v := 1) hx hb dVE_isGiven_6 (by decide) ?_
  refine lv_iand hx hb dVE_isGiven_7 ?_
  refine lv_if_eq (tgt := 15) hx hb dVE_isGiven_8 (by decide) (fun h8 => ?_) (fun h8 => ?_)
  · skip
    refine lv_iconst (v := 0) hx hb dVE_isGiven_15 (by decide) ?_
    exact x_zret S hr hlk hw (by decide) (by decide) rfl (by first | exact ⟨rfl, rfl⟩ | (constructor <;> first | rfl | (simp only [fGiv, if_pos h8]; done))) dVE_isGiven_16
  refine lv_iconst (v := 1) hx hb dVE_isGiven_11 (by decide) ?_
  refine lv_goto (tgt := 16) hx hb dVE_isGiven_12 (by decide) ?_
  exact x_zret S hr hlk hw (by decide) (by decide) rfl (by first | exact ⟨rfl, rfl⟩ | (constructor <;> first | rfl | (simp only [fGiv, if_neg h8]; done))) dVE_isGiven_16

set_option maxHeartbeats 4000000 in
set_option maxRecDepth 100000 in
theorem k_fits_out (l : Launch) (D : va_G) (cI cZ cV : ClassId) (q : Nat) (q1 : Nat) (q2 : Nat) (dg : Nat → Int32) (gs : Nat → Int32) (num : Int32) (stt : Int32) (sec : Int32) (lk : Int32) (th : Int32) (sc : Int32) (gset : Int32) (gc : Int32) (i : Int32) (x : Int32) (h : i < 1 ∨ sc < i) : XI l yVE_fits cVE_fits 3 (some .boolean) D (xT3 cI cZ cV) 2 0 0 [.ref q, .int i, .int x] [(q, .inr (4, [.int num, .ref q1, .ref q2, .int stt, .int sec, .int lk, .int th, .int sc, .int gset, .int gc])), (q1, .inl (cI, 9, .inl dg)), (q2, .inl (cI, 9, .inl gs))] (fun r u => r = 0 ∧ u = [(q, .inr (4, [.int num, .ref q1, .ref q2, .int stt, .int sec, .int lk, .int th, .int sc, .int gset, .int gc])), (q1, .inl (cI, 9, .inl dg)), (q2, .inl (cI, 9, .inl gs))]) := by
  intro sz
  refine x_ofW (Qc := fun A => va_Qi _ (xB D A) A) sz (by decide) (Nat.le_of_ble_eq_true rfl) ?_
  intro p e s m args below meth c A ls S hr hlk hnm hw hl
  obtain ⟨hx, hb, hml, hown, hts⟩ := id S
  have hl : lv_has ls 3 [(0, .ref q), (1, .int i), (2, .int x)] := hl
  refine lv_iload_n hx hb dVE_fits_0 rfl (lv_at hl 1 rfl) ?_
  refine lv_iconst (v := 1) hx hb dVE_fits_1 (by decide) ?_
  refine lv_icmp_lt (tgt := 31) hx hb dVE_fits_2 (by decide) (fun h2 => ?_) (fun h2 => ?_)
  · skip
    refine lv_iconst (v := 0) hx hb dVE_fits_31 (by decide) ?_
    exact x_zret S hr hlk hw (by decide) (by decide) rfl (⟨rfl, rfl⟩) dVE_fits_32
  refine lv_iload_n hx hb dVE_fits_5 rfl (lv_at hl 1 rfl) ?_
  refine lv_aload_n hx hb dVE_fits_6 rfl (lv_at hl 0 rfl) ?_
  refine x_get S hw (C := RVE) (T := TVE) (N := 10) inVE 0 rfl rfl 7 (by decide) xh_1_179 (v := .int sc) rfl dVE_fits_7 ?_
  refine lv_icmp_gt (tgt := 31) hx hb dVE_fits_10 (by decide) (fun h10 => ?_) (fun h10 => ?_)
  · skip
    refine lv_iconst (v := 0) hx hb dVE_fits_31 (by decide) ?_
    exact x_zret S hr hlk hw (by decide) (by decide) rfl (⟨rfl, rfl⟩) dVE_fits_32
  exact False.elim (by rcases h with h | h <;> contradiction)

set_option maxHeartbeats 4000000 in
set_option maxRecDepth 100000 in
theorem k_fits_no (l : Launch) (D : va_G) (cI cZ cV : ClassId) (q : Nat) (q1 : Nat) (q2 : Nat) (dg : Nat → Int32) (gs : Nat → Int32) (num : Int32) (stt : Int32) (sec : Int32) (lk : Int32) (th : Int32) (sc : Int32) (gset : Int32) (gc : Int32) (j : Nat) (x : Int32) (hj : 1 ≤ j ∧ j ≤ 8) (hsc : ¬ sc < nI j) (h : ¬ dg j = fDig (nI j) x) : XI l yVE_fits cVE_fits 3 (some .boolean) D (xT3 cI cZ cV) 2 0 0 [.ref q, .int (nI j), .int x] [(q, .inr (4, [.int num, .ref q1, .ref q2, .int stt, .int sec, .int lk, .int th, .int sc, .int gset, .int gc])), (q1, .inl (cI, 9, .inl dg)), (q2, .inl (cI, 9, .inl gs))] (fun r u => r = 0 ∧ u = [(q, .inr (4, [.int num, .ref q1, .ref q2, .int stt, .int sec, .int lk, .int th, .int sc, .int gset, .int gc])), (q1, .inl (cI, 9, .inl dg)), (q2, .inl (cI, 9, .inl gs))]) := by
  intro sz
  refine x_ofW (Qc := fun A => va_Qi _ (xB D A) A) sz (by decide) (Nat.le_of_ble_eq_true rfl) ?_
  intro p e s m args below meth c A ls S hr hlk hnm hw hl
  obtain ⟨hx, hb, hml, hown, hts⟩ := id S
  have hl : lv_has ls 3 [(0, .ref q), (1, .int (nI j)), (2, .int x)] := hl
  refine lv_iload_n hx hb dVE_fits_0 rfl (lv_at hl 1 rfl) ?_
  refine lv_iconst (v := 1) hx hb dVE_fits_1 (by decide) ?_
  refine lv_icmp_lt (tgt := 31) hx hb dVE_fits_2 (by decide) (fun h2 => absurd h2 (nI_nlt (b := 1) (by omega) (by omega))) (fun h2 => ?_)
  refine lv_iload_n hx hb dVE_fits_5 rfl (lv_at hl 1 rfl) ?_
  refine lv_aload_n hx hb dVE_fits_6 rfl (lv_at hl 0 rfl) ?_
  refine x_get S hw (C := RVE) (T := TVE) (N := 10) inVE 0 rfl rfl 7 (by decide) xh_1_179 (v := .int sc) rfl dVE_fits_7 ?_
  refine lv_icmp_gt (tgt := 31) hx hb dVE_fits_10 (by decide) (fun h10 => absurd h10 hsc) (fun h10 => ?_)
  refine lv_aload_n hx hb dVE_fits_13 rfl (lv_at hl 0 rfl) ?_
  refine x_get S hw (C := RVE) (T := TVE) (N := 10) inVE 0 rfl rfl 1 (by decide) xh_1_169 (v := .ref q1) rfl dVE_fits_14 ?_
  refine lv_iload_n hx hb dVE_fits_17 rfl (lv_at hl 1 rfl) ?_
  refine x_iald S hw 1 0 rfl rfl (j := j) (vp_in_nI (by omega) (by omega)) (nI_clamp (by omega)) dVE_fits_18 ?_
  refine lv_iload_n hx hb dVE_fits_19 rfl (lv_at hl 1 rfl) ?_
  refine lv_iload_n hx hb dVE_fits_20 rfl (lv_at hl 2 rfl) ?_
  refine x_calliD (ws' := [(q, .inr (4, [.int num, .ref q1, .ref q2, .int stt, .int sec, .int lk, .int th, .int sc, .int gset, .int gc])), (q1, .inl (cI, 9, .inl dg)), (q2, .inl (cI, 9, .inl gs))]) hw [] rfl rfl (x_runSN (n := 2) (rest := [.int (dg j)]) (As := [.int (nI j), .int x]) S hw (k_dig l D cI cZ cV (nI j) x _) xh_2_17 xh_2_15 xh_2_16 xh_1_1 (by decide +kernel) ⟨by decide, by decide⟩ [] rfl rfl rfl hl.1 rfl (Nat.le_of_ble_eq_true rfl) dVE_fits_21 ⟨by decide, by decide⟩) rfl rfl (fun H locs hw => ?_)
  refine lv_icmp_ne (tgt := 31) hx hb dVE_fits_24 (by decide) (fun h24 => ?_) (fun h24 => absurd h24 h)
  refine lv_iconst (v := 0) hx hb dVE_fits_31 (by decide) ?_
  exact x_zret S hr hlk hw (by decide) (by decide) rfl (⟨rfl, rfl⟩) dVE_fits_32

set_option maxHeartbeats 4000000 in
set_option maxRecDepth 100000 in
theorem k_fits_ok (l : Launch) (D : va_G) (cI cZ cV : ClassId) (q : Nat) (q1 : Nat) (q2 : Nat) (dg : Nat → Int32) (gs : Nat → Int32) (num : Int32) (stt : Int32) (sec : Int32) (lk : Int32) (th : Int32) (sc : Int32) (gset : Int32) (gc : Int32) (j : Nat) (x : Int32) (hj : 1 ≤ j ∧ j ≤ 8) (hsc : ¬ sc < nI j) (h : dg j = fDig (nI j) x) : XI l yVE_fits cVE_fits 3 (some .boolean) D (xT3 cI cZ cV) 2 0 0 [.ref q, .int (nI j), .int x] [(q, .inr (4, [.int num, .ref q1, .ref q2, .int stt, .int sec, .int lk, .int th, .int sc, .int gset, .int gc])), (q1, .inl (cI, 9, .inl dg)), (q2, .inl (cI, 9, .inl gs))] (fun r u => r = 1 ∧ u = [(q, .inr (4, [.int num, .ref q1, .ref q2, .int stt, .int sec, .int lk, .int th, .int sc, .int gset, .int gc])), (q1, .inl (cI, 9, .inl dg)), (q2, .inl (cI, 9, .inl gs))]) := by
  intro sz
  refine x_ofW (Qc := fun A => va_Qi _ (xB D A) A) sz (by decide) (Nat.le_of_ble_eq_true rfl) ?_
  intro p e s m args below meth c A ls S hr hlk hnm hw hl
  obtain ⟨hx, hb, hml, hown, hts⟩ := id S
  have hl : lv_has ls 3 [(0, .ref q), (1, .int (nI j)), (2, .int x)] := hl
  refine lv_iload_n hx hb dVE_fits_0 rfl (lv_at hl 1 rfl) ?_
  refine lv_iconst (v := 1) hx hb dVE_fits_1 (by decide) ?_
  refine lv_icmp_lt (tgt := 31) hx hb dVE_fits_2 (by decide) (fun h2 => absurd h2 (nI_nlt (b := 1) (by omega) (by omega))) (fun h2 => ?_)
  refine lv_iload_n hx hb dVE_fits_5 rfl (lv_at hl 1 rfl) ?_
  refine lv_aload_n hx hb dVE_fits_6 rfl (lv_at hl 0 rfl) ?_
  refine x_get S hw (C := RVE) (T := TVE) (N := 10) inVE 0 rfl rfl 7 (by decide) xh_1_179 (v := .int sc) rfl dVE_fits_7 ?_
  refine lv_icmp_gt (tgt := 31) hx hb dVE_fits_10 (by decide) (fun h10 => absurd h10 hsc) (fun h10 => ?_)
  refine lv_aload_n hx hb dVE_fits_13 rfl (lv_at hl 0 rfl) ?_
  refine x_get S hw (C := RVE) (T := TVE) (N := 10) inVE 0 rfl rfl 1 (by decide) xh_1_169 (v := .ref q1) rfl dVE_fits_14 ?_
  refine lv_iload_n hx hb dVE_fits_17 rfl (lv_at hl 1 rfl) ?_
  refine x_iald S hw 1 0 rfl rfl (j := j) (vp_in_nI (by omega) (by omega)) (nI_clamp (by omega)) dVE_fits_18 ?_
  refine lv_iload_n hx hb dVE_fits_19 rfl (lv_at hl 1 rfl) ?_
  refine lv_iload_n hx hb dVE_fits_20 rfl (lv_at hl 2 rfl) ?_
  refine x_calliD (ws' := [(q, .inr (4, [.int num, .ref q1, .ref q2, .int stt, .int sec, .int lk, .int th, .int sc, .int gset, .int gc])), (q1, .inl (cI, 9, .inl dg)), (q2, .inl (cI, 9, .inl gs))]) hw [] rfl rfl (x_runSN (n := 2) (rest := [.int (dg j)]) (As := [.int (nI j), .int x]) S hw (k_dig l D cI cZ cV (nI j) x _) xh_2_17 xh_2_15 xh_2_16 xh_1_1 (by decide +kernel) ⟨by decide, by decide⟩ [] rfl rfl rfl hl.1 rfl (Nat.le_of_ble_eq_true rfl) dVE_fits_21 ⟨by decide, by decide⟩) rfl rfl (fun H locs hw => ?_)
  refine lv_icmp_ne (tgt := 31) hx hb dVE_fits_24 (by decide) (fun h24 => absurd h h24) (fun h24 => ?_)
  refine lv_iconst (v := 1) hx hb dVE_fits_27 (by decide) ?_
  refine lv_goto (tgt := 32) hx hb dVE_fits_28 (by decide) ?_
  exact x_zret S hr hlk hw (by decide) (by decide) rfl (⟨rfl, rfl⟩) dVE_fits_32

set_option maxHeartbeats 4000000 in
set_option maxRecDepth 100000 in
theorem k_accept (l : Launch) (D : va_G) (cI cZ cV : ClassId) (q : Nat) (q1 : Nat) (q2 : Nat) (dg : Nat → Int32) (gs : Nat → Int32) (num : Int32) (stt : Int32) (sec : Int32) (lk : Int32) (th : Int32) (sc : Int32) (G0 : Nat) (g0 : Nat) (j : Nat) (x : Int32) (hj : j ≤ 8) : XV l yVE_accept cVE_accept 3 none D (xT3 cI cZ cV) 0 0 0 [.ref q, .int (nI j), .int x] [(q, .inr (4, [.int num, .ref q1, .ref q2, .int stt, .int sec, .int lk, .int th, .int sc, .int (nI G0), .int (nI g0)])), (q1, .inl (cI, 9, .inl dg)), (q2, .inl (cI, 9, .inl gs))] (fun u => u = [(q, .inr (4, [.int num, .ref q1, .ref q2, .int stt, .int sec, .int lk, .int th, .int sc, .int (nI (G0 ||| 2 ^ j)), .int (nI (g0 + 1))])), (q1, .inl (cI, 9, .inl dg)), (q2, .inl (cI, 9, .inl (upd gs j x)))]) := by
  intro sz
  refine x_ofW (Qc := fun A => va_Qv _ (xB D A) A) sz (by decide) (Nat.le_of_ble_eq_true rfl) ?_
  intro p e s m args below meth c A ls S hr hlk hnm hw hl
  obtain ⟨hx, hb, hml, hown, hts⟩ := id S
  have hl : lv_has ls 3 [(0, .ref q), (1, .int (nI j)), (2, .int x)] := hl
  refine lv_aload_n hx hb dVE_accept_0 rfl (lv_at hl 0 rfl) ?_
  refine x_get S hw (C := RVE) (T := TVE) (N := 10) inVE 0 rfl rfl 2 (by decide) xh_1_170 (v := .ref q2) rfl dVE_accept_1 ?_
  refine lv_iload_n hx hb dVE_accept_4 rfl (lv_at hl 1 rfl) ?_
  refine lv_iload_n hx hb dVE_accept_5 rfl (lv_at hl 2 rfl) ?_
  refine x_iast S hw 2 0 rfl rfl (j := j) (vp_in_nI (by omega) (by omega)) (nI_clamp (by omega)) (ws' := [(q, .inr (4, [.int num, .ref q1, .ref q2, .int stt, .int sec, .int lk, .int th, .int sc, .int (nI G0), .int (nI g0)])), (q1, .inl (cI, 9, .inl dg)), (q2, .inl (cI, 9, .inl (upd gs j x)))]) rfl dVE_accept_6 (fun H locs hw => ?_)
  refine lv_aload_n hx hb dVE_accept_7 rfl (lv_at hl 0 rfl) ?_
  refine lv_dup hx hb dVE_accept_8 rfl ?_
  refine x_get S hw (C := RVE) (T := TVE) (N := 10) inVE 0 rfl rfl 8 (by decide) xh_1_180 (v := .int (nI G0)) rfl dVE_accept_9 ?_
  refine lv_iconst (v := 1) hx hb dVE_accept_12 (by decide) ?_
  refine lv_iload_n hx hb dVE_accept_13 rfl (lv_at hl 1 rfl) ?_
  refine lv_ishl hx hb dVE_accept_14 ?_
  refine lv_ior hx hb dVE_accept_15 ?_
  refine x_topi (y := nI (G0 ||| 2 ^ j)) (or_bit G0 (by omega)) ?_
  refine x_put S hw (C := RVE) (T := TVE) (N := 10) inVE tyVE tyVE_ok nmVE 0 rfl rfl 8 (by decide) xh_1_180 rfl (v := .int (nI (G0 ||| 2 ^ j))) rfl rfl (Nat.le_of_ble_eq_true rfl) (ws' := [(q, .inr (4, [.int num, .ref q1, .ref q2, .int stt, .int sec, .int lk, .int th, .int sc, .int (nI (G0 ||| 2 ^ j)), .int (nI g0)])), (q1, .inl (cI, 9, .inl dg)), (q2, .inl (cI, 9, .inl (upd gs j x)))]) rfl dVE_accept_16 (fun H locs hw => ?_)
  refine lv_aload_n hx hb dVE_accept_19 rfl (lv_at hl 0 rfl) ?_
  refine lv_dup hx hb dVE_accept_20 rfl ?_
  refine x_get S hw (C := RVE) (T := TVE) (N := 10) inVE 0 rfl rfl 9 (by decide) xh_1_182 (v := .int (nI g0)) rfl dVE_accept_21 ?_
  refine lv_iconst (v := 1) hx hb dVE_accept_24 (by decide) ?_
  refine lv_iadd hx hb dVE_accept_25 ?_
  refine x_topi (y := nI (g0 + 1)) ((nI_succ _).symm) ?_
  refine x_put S hw (C := RVE) (T := TVE) (N := 10) inVE tyVE tyVE_ok nmVE 0 rfl rfl 9 (by decide) xh_1_182 rfl (v := .int (nI (g0 + 1))) rfl rfl (Nat.le_of_ble_eq_true rfl) (ws' := [(q, .inr (4, [.int num, .ref q1, .ref q2, .int stt, .int sec, .int lk, .int th, .int sc, .int (nI (G0 ||| 2 ^ j)), .int (nI (g0 + 1))])), (q1, .inl (cI, 9, .inl dg)), (q2, .inl (cI, 9, .inl (upd gs j x)))]) rfl dVE_accept_26 (fun H locs hw => ?_)
  exact x_vret S hr hlk hw (by decide) (by decide) (rfl) dVE_accept_29

set_option maxHeartbeats 4000000 in
set_option maxRecDepth 100000 in
theorem lp_scaled {p : Program} {l : Launch} {e : Env} {s : State} {m : MethodId} {args : Array Value} {below : List Frame} {meth : Method} {c : Code} {Q : State → Prop} {D : va_G} {A : Nat → Prop} {cI cZ cV : ClassId} {H0 : Heap} {R : Room} {cells slots : Nat} (hR : R = (xR 1 0 0)) (hC : cells = 0 ∧ slots = 0) (S : CallFix p m c cVE_scaled 4 s args xAll "EscrowedVersions$Version") (x : Int32) (w : Int32)
    (kk : ∀ (ls : Array Slot) (H : Heap) (locs : List Loc), xW D (xT3 cI cZ cV) A H0 H locs [] s → lv_has ls 4 [(0, .int x), (1, .int w), (2, .int (scF x w 4)), (3, .int (nI 0 + (-1)))] → W p l e R s m args below meth c H locs cells slots Q (F0 m 34 ls [])) :
    ∀ (n k : Nat) (ls : Array Slot) (H : Heap) (locs : List Loc), k + n = 4 → xW D (xT3 cI cZ cV) A H0 H locs [] s → lv_has ls 4 [(0, .int x), (1, .int w), (2, .int (scF x w k)), (3, .int (nI n + (-1)))] → W p l e R s m args below meth c H locs cells slots Q (F0 m 4 ls []) := by
  obtain ⟨hx, hb, hml, hown, hts⟩ := id S
  subst hR
  obtain ⟨rfl, rfl⟩ := hC
  intro n
  induction n with
  | zero =>
    intro k ls H locs hk hw hl
    obtain rfl : 4 = k := by omega
    refine lv_iload_n hx hb dVE_scaled_4 rfl (lv_at hl 3 rfl) ?_
    refine lv_if_lt (tgt := 34) hx hb dVE_scaled_5 (by decide) (fun h5 => ?_) (fun h5 => absurd (by decide +kernel) h5)
    exact kk ls H locs hw (lv_sub hl [0, 1, 2, 3] rfl)
  | succ n ih =>
    intro k ls H locs hk hw hl
    have hkN : k < 4 := by omega
    have hl : lv_has ls 4 [(0, .int x), (1, .int w), (2, .int (scF x w k)), (3, .int (nI n))] := by rw [pk_m1] at hl; exact hl
    refine lv_iload_n hx hb dVE_scaled_4 rfl (lv_at hl 3 rfl) ?_
    refine lv_if_lt (tgt := 34) hx hb dVE_scaled_5 (by decide) (fun h5 => absurd h5 (nI_pos (by omega))) (fun h5 => ?_)
    refine lv_iload_n hx hb dVE_scaled_8 rfl (lv_at hl 2 rfl) ?_
    refine lv_bipush (v := 8) hx hb dVE_scaled_9 (by decide) ?_
    refine lv_ishl hx hb dVE_scaled_11 ?_
    refine lv_iload_n hx hb dVE_scaled_12 rfl (lv_at hl 0 rfl) ?_
    refine lv_bipush (v := 8) hx hb dVE_scaled_13 (by decide) ?_
    refine lv_iload_n hx hb dVE_scaled_15 rfl (lv_at hl 3 rfl) ?_
    refine lv_imul hx hb dVE_scaled_16 ?_
    refine lv_iushr (v := (xushr x (8 * nI n))) hx hb dVE_scaled_17 rfl ?_
    refine lv_sipush (v := 255) hx hb dVE_scaled_18 (by decide) ?_
    refine lv_iand hx hb dVE_scaled_21 ?_
    refine lv_iload_n hx hb dVE_scaled_22 rfl (lv_at hl 1 rfl) ?_
    refine x_calliD (ws' := []) hw [] rfl rfl (x_runS (n := 2) (rest := [.int (scF x w k <<< ((8 : Int32) &&& 31))]) (As := [.int ((xushr x (8 * nI n)) &&& 255), .int w]) S hw (k_prod l D cI cZ cV ((xushr x (8 * nI n)) &&& 255) w _) xh_1_145 xh_2_68 xh_1_144 xh_1_7 (by decide +kernel) ⟨by decide, by decide⟩ [] rfl rfl rfl hl.1 rfl (Nat.le_of_ble_eq_true rfl) dVE_scaled_23 ⟨by decide, by decide⟩) rfl rfl (fun H locs hw => ?_)
    refine lv_ior hx hb dVE_scaled_26 ?_
    refine lv_istore_n (lv' := [(2, .int ((scF x w k <<< ((8 : Int32) &&& 31)) ||| (fProd ((xushr x (8 * nI n)) &&& 255) w))), (0, .int x), (1, .int w), (3, .int (nI n))]) hx hb dVE_scaled_27 rfl hl (by decide) rfl (fun ls hl => ?_)
    refine lv_iinc (v := (nI n) + (-1)) (lv' := [(3, .int ((nI n) + (-1))), (2, .int ((scF x w k <<< ((8 : Int32) &&& 31)) ||| (fProd ((xushr x (8 * nI n)) &&& 255) w))), (0, .int x), (1, .int w)]) hx hb dVE_scaled_28 hl (k := 3) rfl (by rw [show Int32.ofInt (-1) = (-1 : Int32) by decide]) (by decide) rfl (fun ls hl => ?_)
    refine lv_goto (tgt := 4) hx hb dVE_scaled_31 (by decide) ?_
    have e0 : scF x w (k + 1) = (scF x w k <<< ((8 : Int32) &&& 31)) ||| (fProd ((xushr x (8 * nI n)) &&& 255) w) := by simp only [scF]; rw [show 3 - k = n by omega]
    have e1 : nI n + (-1) = (nI n) + (-1) := by simp only []
    refine ih (k + 1) ls H locs (by omega) ?_ ?_
    · exact hw
    · rw [e0, e1]; exact lv_sub hl [2, 3, 1, 0] rfl

set_option maxHeartbeats 4000000 in
set_option maxRecDepth 100000 in
theorem k_scaled (l : Launch) (D : va_G) (cI cZ cV : ClassId) (x : Int32) (w : Int32) : XI l yVE_scaled cVE_scaled 4 (some .int) D (xT3 cI cZ cV) 1 0 0 [.int x, .int w] [] (fun r u => r = scF x w 4 ∧ u = []) := by
  intro sz
  refine x_ofW (Qc := fun A => va_Qi _ (xB D A) A) sz (by decide) (Nat.le_of_ble_eq_true rfl) ?_
  intro p e s m args below meth c A ls S hr hlk hnm hw hl
  obtain ⟨hx, hb, hml, hown, hts⟩ := id S
  have hl : lv_has ls 4 [(0, .int x), (1, .int w)] := hl
  refine lv_iconst (v := 0) hx hb dVE_scaled_0 (by decide) ?_
  refine lv_istore_n (lv' := [(2, .int 0), (0, .int x), (1, .int w)]) hx hb dVE_scaled_1 rfl hl (by decide) rfl (fun ls hl => ?_)
  refine lv_iconst (v := 3) hx hb dVE_scaled_2 (by decide) ?_
  refine lv_istore_n (lv' := [(3, .int 3), (2, .int 0), (0, .int x), (1, .int w)]) hx hb dVE_scaled_3 rfl hl (by decide) rfl (fun ls hl => ?_)
  refine lp_scaled rfl ⟨rfl, rfl⟩ S x w (fun ls H locs hw hl => ?_) 4 0 ls _ _ (Nat.zero_add _) hw (lv_sub hl [2, 3, 1, 0] rfl)
  refine lv_iload_n hx hb dVE_scaled_34 rfl (lv_at hl 2 rfl) ?_
  exact x_iret S hr hlk hw (by decide) (by decide) (⟨rfl, rfl⟩) dVE_scaled_35

set_option maxHeartbeats 4000000 in
set_option maxRecDepth 100000 in
theorem lp_weight {p : Program} {l : Launch} {e : Env} {s : State} {m : MethodId} {args : Array Value} {below : List Frame} {meth : Method} {c : Code} {Q : State → Prop} {D : va_G} {A : Nat → Prop} {cI cZ cV : ClassId} {H0 : Heap} {R : Room} {cells slots : Nat} (hR : R = (xR 2 0 0)) (hC : cells = 0 ∧ slots = 0) (S : CallFix p m c cVE_weightAtZero 4 s args xAll "EscrowedVersions$Version") (q : Nat) (q1 : Nat) (q2 : Nat) (dg : Nat → Int32) (gs : Nat → Int32) (num : Int32) (stt : Int32) (sec : Int32) (lk : Int32) (th : Int32) (sc : Int32) (gset : Int32) (gc : Int32) (i : Int32)
    (kk : ∀ (ls : Array Slot) (H : Heap) (locs : List Loc), xW D (xT3 cI cZ cV) A H0 H locs [(q, .inr (4, [.int num, .ref q1, .ref q2, .int stt, .int sec, .int lk, .int th, .int sc, .int gset, .int gc])), (q1, .inl (cI, 9, .inl dg)), (q2, .inl (cI, 9, .inl gs))] s → lv_has ls 4 [(0, .ref q), (1, .int i), (2, .int (wzF gset i 8)), (3, .int (nI (8 + 1)))] → W p l e R s m args below meth c H locs cells slots Q (F0 m 44 ls [])) :
    ∀ (n k : Nat) (ls : Array Slot) (H : Heap) (locs : List Loc), k + n = 8 → xW D (xT3 cI cZ cV) A H0 H locs [(q, .inr (4, [.int num, .ref q1, .ref q2, .int stt, .int sec, .int lk, .int th, .int sc, .int gset, .int gc])), (q1, .inl (cI, 9, .inl dg)), (q2, .inl (cI, 9, .inl gs))] s → lv_has ls 4 [(0, .ref q), (1, .int i), (2, .int (wzF gset i k)), (3, .int (nI (k + 1)))] → W p l e R s m args below meth c H locs cells slots Q (F0 m 4 ls []) := by
  obtain ⟨hx, hb, hml, hown, hts⟩ := id S
  subst hR
  obtain ⟨rfl, rfl⟩ := hC
  intro n
  induction n with
  | zero =>
    intro k ls H locs hk hw hl
    obtain rfl : 8 = k := by omega
    refine lv_iload_n hx hb dVE_weightAtZero_4 rfl (lv_at hl 3 rfl) ?_
    refine lv_bipush (v := 8) hx hb dVE_weightAtZero_5 (by decide) ?_
    refine lv_icmp_gt (tgt := 44) hx hb dVE_weightAtZero_7 (by decide) (fun h7 => ?_) (fun h7 => absurd (nI_lt (a := 8) (b := 8 + 1) (by decide) (by decide)) h7)
    exact kk ls H locs hw (lv_sub hl [0, 1, 2, 3] rfl)
  | succ n ih =>
    intro k ls H locs hk hw hl
    have hkN : k < 8 := by omega
    refine lv_iload_n hx hb dVE_weightAtZero_4 rfl (lv_at hl 3 rfl) ?_
    refine lv_bipush (v := 8) hx hb dVE_weightAtZero_5 (by decide) ?_
    refine lv_icmp_gt (tgt := 44) hx hb dVE_weightAtZero_7 (by decide) (fun h7 => absurd h7 (nI_nlt (a := 8) (by omega) (by decide))) (fun h7 => ?_)
    refine lv_iload_n hx hb dVE_weightAtZero_10 rfl (lv_at hl 3 rfl) ?_
    refine lv_iload_n hx hb dVE_weightAtZero_11 rfl (lv_at hl 1 rfl) ?_
    refine lv_icmp_eq (tgt := 38) hx hb dVE_weightAtZero_12 (by decide) (fun h12 => ?_) (fun h12 => ?_)
    · skip
      refine lv_iinc (v := nI ((k + 1) + 1)) (lv' := [(3, .int (nI ((k + 1) + 1))), (0, .ref q), (1, .int i), (2, .int (wzF gset i k))]) hx hb dVE_weightAtZero_38 hl (k := 3) rfl ((nI_succ _).symm) (by decide) rfl (fun ls hl => ?_)
      refine lv_goto (tgt := 4) hx hb dVE_weightAtZero_41 (by decide) ?_
      have e0 : wzF gset i (k + 1) = wzF gset i k := by simp only [wzF, if_pos h12]
      refine ih (k + 1) ls H locs (by omega) ?_ ?_
      · exact hw
      · rw [e0]; exact lv_sub hl [1, 2, 3, 0] rfl
    refine lv_aload_n hx hb dVE_weightAtZero_15 rfl (lv_at hl 0 rfl) ?_
    refine lv_iload_n hx hb dVE_weightAtZero_16 rfl (lv_at hl 3 rfl) ?_
    refine x_calliD (ws' := [(q, .inr (4, [.int num, .ref q1, .ref q2, .int stt, .int sec, .int lk, .int th, .int sc, .int gset, .int gc])), (q1, .inl (cI, 9, .inl dg)), (q2, .inl (cI, 9, .inl gs))]) hw [0, 1, 2] rfl rfl (x_runV (n := 1) (rest := []) (As := [.int (nI (k + 1))]) S hw (k_isGiven l D cI cZ cV q q1 q2 dg gs num stt sec lk th sc gset gc (nI (k + 1)) _) xh_2_46 xh_2_59 xh_2_44 xh_2_45 xh_1_8 (by decide +kernel) ⟨by decide, by decide⟩ [0, 1, 2] rfl rfl (ci := 4) (q0 := 0) rfl rfl rfl hl.1 rfl (Nat.le_of_ble_eq_true rfl) dVE_weightAtZero_17 ⟨by decide, by decide⟩) rfl rfl (fun H locs hw => ?_)
    refine lv_if_eq (tgt := 38) hx hb dVE_weightAtZero_20 (by decide) (fun h20 => ?_) (fun h20 => ?_)
    · skip
      refine lv_iinc (v := nI ((k + 1) + 1)) (lv' := [(3, .int (nI ((k + 1) + 1))), (0, .ref q), (1, .int i), (2, .int (wzF gset i k))]) hx hb dVE_weightAtZero_38 hl (k := 3) rfl ((nI_succ _).symm) (by decide) rfl (fun ls hl => ?_)
      refine lv_goto (tgt := 4) hx hb dVE_weightAtZero_41 (by decide) ?_
      have e0 : wzF gset i (k + 1) = wzF gset i k := by simp only [wzF, if_neg h12, if_pos h20]
      refine ih (k + 1) ls H locs (by omega) ?_ ?_
      · exact hw
      · rw [e0]; exact lv_sub hl [1, 2, 3, 0] rfl
    refine lv_iload_n hx hb dVE_weightAtZero_23 rfl (lv_at hl 2 rfl) ?_
    refine lv_iload_n hx hb dVE_weightAtZero_24 rfl (lv_at hl 3 rfl) ?_
    refine lv_iload_n hx hb dVE_weightAtZero_25 rfl (lv_at hl 3 rfl) ?_
    refine lv_iload_n hx hb dVE_weightAtZero_26 rfl (lv_at hl 1 rfl) ?_
    refine lv_ixor hx hb dVE_weightAtZero_27 ?_
    refine x_calliD (ws' := [(q, .inr (4, [.int num, .ref q1, .ref q2, .int stt, .int sec, .int lk, .int th, .int sc, .int gset, .int gc])), (q1, .inl (cI, 9, .inl dg)), (q2, .inl (cI, 9, .inl gs))]) hw [] rfl rfl (x_runS (n := 1) (rest := [.int (nI (k + 1)), .int (wzF gset i k)]) (As := [.int ((nI (k + 1)) ^^^ i)]) S hw (k_inv l D cI cZ cV ((nI (k + 1)) ^^^ i) _) xh_2_66 xh_2_64 xh_2_65 xh_1_7 (by decide +kernel) ⟨by decide, by decide⟩ [] rfl rfl rfl hl.1 rfl (Nat.le_of_ble_eq_true rfl) dVE_weightAtZero_28 ⟨by decide, by decide⟩) rfl rfl (fun H locs hw => ?_)
    refine x_calliD (ws' := [(q, .inr (4, [.int num, .ref q1, .ref q2, .int stt, .int sec, .int lk, .int th, .int sc, .int gset, .int gc])), (q1, .inl (cI, 9, .inl dg)), (q2, .inl (cI, 9, .inl gs))]) hw [] rfl rfl (x_runS (n := 2) (rest := [.int (wzF gset i k)]) (As := [.int (nI (k + 1)), .int (fInv ((nI (k + 1)) ^^^ i))]) S hw (k_prod l D cI cZ cV (nI (k + 1)) (fInv ((nI (k + 1)) ^^^ i)) _) xh_1_145 xh_2_68 xh_1_144 xh_1_7 (by decide +kernel) ⟨by decide, by decide⟩ [] rfl rfl rfl hl.1 rfl (Nat.le_of_ble_eq_true rfl) dVE_weightAtZero_31 ⟨by decide, by decide⟩) rfl rfl (fun H locs hw => ?_)
    refine x_calliD (ws' := [(q, .inr (4, [.int num, .ref q1, .ref q2, .int stt, .int sec, .int lk, .int th, .int sc, .int gset, .int gc])), (q1, .inl (cI, 9, .inl dg)), (q2, .inl (cI, 9, .inl gs))]) hw [] rfl rfl (x_runS (n := 2) (rest := []) (As := [.int (wzF gset i k), .int (fProd (nI (k + 1)) (fInv ((nI (k + 1)) ^^^ i)))]) S hw (k_prod l D cI cZ cV (wzF gset i k) (fProd (nI (k + 1)) (fInv ((nI (k + 1)) ^^^ i))) _) xh_1_145 xh_2_68 xh_1_144 xh_1_7 (by decide +kernel) ⟨by decide, by decide⟩ [] rfl rfl rfl hl.1 rfl (Nat.le_of_ble_eq_true rfl) dVE_weightAtZero_34 ⟨by decide, by decide⟩) rfl rfl (fun H locs hw => ?_)
    refine lv_istore_n (lv' := [(2, .int (fProd (wzF gset i k) (fProd (nI (k + 1)) (fInv ((nI (k + 1)) ^^^ i))))), (0, .ref q), (1, .int i), (3, .int (nI (k + 1)))]) hx hb dVE_weightAtZero_37 rfl hl (by decide) rfl (fun ls hl => ?_)
    refine lv_iinc (v := nI ((k + 1) + 1)) (lv' := [(3, .int (nI ((k + 1) + 1))), (2, .int (fProd (wzF gset i k) (fProd (nI (k + 1)) (fInv ((nI (k + 1)) ^^^ i))))), (0, .ref q), (1, .int i)]) hx hb dVE_weightAtZero_38 hl (k := 3) rfl ((nI_succ _).symm) (by decide) rfl (fun ls hl => ?_)
    refine lv_goto (tgt := 4) hx hb dVE_weightAtZero_41 (by decide) ?_
    have e0 : wzF gset i (k + 1) = fProd (wzF gset i k) (fProd (nI (k + 1)) (fInv ((nI (k + 1)) ^^^ i))) := by simp only [wzF, if_neg h12, if_neg h20]
    refine ih (k + 1) ls H locs (by omega) ?_ ?_
    · exact hw
    · rw [e0]; exact lv_sub hl [2, 3, 1, 0] rfl

set_option maxHeartbeats 4000000 in
set_option maxRecDepth 100000 in
theorem k_weight (l : Launch) (D : va_G) (cI cZ cV : ClassId) (q : Nat) (q1 : Nat) (q2 : Nat) (dg : Nat → Int32) (gs : Nat → Int32) (num : Int32) (stt : Int32) (sec : Int32) (lk : Int32) (th : Int32) (sc : Int32) (gset : Int32) (gc : Int32) (i : Int32) : XI l yVE_weightAtZero cVE_weightAtZero 4 (some .int) D (xT3 cI cZ cV) 2 0 0 [.ref q, .int i] [(q, .inr (4, [.int num, .ref q1, .ref q2, .int stt, .int sec, .int lk, .int th, .int sc, .int gset, .int gc])), (q1, .inl (cI, 9, .inl dg)), (q2, .inl (cI, 9, .inl gs))] (fun r u => r = wzF gset i 8 ∧ u = [(q, .inr (4, [.int num, .ref q1, .ref q2, .int stt, .int sec, .int lk, .int th, .int sc, .int gset, .int gc])), (q1, .inl (cI, 9, .inl dg)), (q2, .inl (cI, 9, .inl gs))]) := by
  intro sz
  refine x_ofW (Qc := fun A => va_Qi _ (xB D A) A) sz (by decide) (Nat.le_of_ble_eq_true rfl) ?_
  intro p e s m args below meth c A ls S hr hlk hnm hw hl
  obtain ⟨hx, hb, hml, hown, hts⟩ := id S
  have hl : lv_has ls 4 [(0, .ref q), (1, .int i)] := hl
  refine lv_iconst (v := 1) hx hb dVE_weightAtZero_0 (by decide) ?_
  refine lv_istore_n (lv' := [(2, .int 1), (0, .ref q), (1, .int i)]) hx hb dVE_weightAtZero_1 rfl hl (by decide) rfl (fun ls hl => ?_)
  refine lv_iconst (v := 1) hx hb dVE_weightAtZero_2 (by decide) ?_
  refine lv_istore_n (lv' := [(3, .int 1), (2, .int 1), (0, .ref q), (1, .int i)]) hx hb dVE_weightAtZero_3 rfl hl (by decide) rfl (fun ls hl => ?_)
  refine lp_weight rfl ⟨rfl, rfl⟩ S q q1 q2 dg gs num stt sec lk th sc gset gc i (fun ls H locs hw hl => ?_) 8 0 ls _ _ (Nat.zero_add _) hw (lv_sub hl [2, 3, 1, 0] rfl)
  refine lv_iload_n hx hb dVE_weightAtZero_44 rfl (lv_at hl 2 rfl) ?_
  exact x_iret S hr hlk hw (by decide) (by decide) (⟨rfl, rfl⟩) dVE_weightAtZero_45

set_option maxHeartbeats 4000000 in
set_option maxRecDepth 100000 in
theorem lp_together {p : Program} {l : Launch} {e : Env} {s : State} {m : MethodId} {args : Array Value} {below : List Frame} {meth : Method} {c : Code} {Q : State → Prop} {D : va_G} {A : Nat → Prop} {cI cZ cV : ClassId} {H0 : Heap} {R : Room} {cells slots : Nat} (hR : R = (xR 3 0 0)) (hC : cells = 0 ∧ slots = 0) (S : CallFix p m c cVE_putTogether 3 s args xAll "EscrowedVersions$Version") (q : Nat) (q1 : Nat) (q2 : Nat) (dg : Nat → Int32) (gs : Nat → Int32) (num : Int32) (stt : Int32) (sec : Int32) (lk : Int32) (th : Int32) (sc : Int32) (gset : Int32) (gc : Int32)
    (kk : ∀ (ls : Array Slot) (H : Heap) (locs : List Loc), xW D (xT3 cI cZ cV) A H0 H locs [(q, .inr (4, [.int num, .ref q1, .ref q2, .int stt, .int sec, .int lk, .int th, .int sc, .int gset, .int gc])), (q1, .inl (cI, 9, .inl dg)), (q2, .inl (cI, 9, .inl gs))] s → lv_has ls 3 [(0, .ref q), (1, .int (ptF gset gs 8)), (2, .int (nI (8 + 1)))] → W p l e R s m args below meth c H locs cells slots Q (F0 m 41 ls [])) :
    ∀ (n k : Nat) (ls : Array Slot) (H : Heap) (locs : List Loc), k + n = 8 → xW D (xT3 cI cZ cV) A H0 H locs [(q, .inr (4, [.int num, .ref q1, .ref q2, .int stt, .int sec, .int lk, .int th, .int sc, .int gset, .int gc])), (q1, .inl (cI, 9, .inl dg)), (q2, .inl (cI, 9, .inl gs))] s → lv_has ls 3 [(0, .ref q), (1, .int (ptF gset gs k)), (2, .int (nI (k + 1)))] → W p l e R s m args below meth c H locs cells slots Q (F0 m 4 ls []) := by
  obtain ⟨hx, hb, hml, hown, hts⟩ := id S
  subst hR
  obtain ⟨rfl, rfl⟩ := hC
  intro n
  induction n with
  | zero =>
    intro k ls H locs hk hw hl
    obtain rfl : 8 = k := by omega
    refine lv_iload_n hx hb dVE_putTogether_4 rfl (lv_at hl 2 rfl) ?_
    refine lv_bipush (v := 8) hx hb dVE_putTogether_5 (by decide) ?_
    refine lv_icmp_gt (tgt := 41) hx hb dVE_putTogether_7 (by decide) (fun h7 => ?_) (fun h7 => absurd (nI_lt (a := 8) (b := 8 + 1) (by decide) (by decide)) h7)
    exact kk ls H locs hw (lv_sub hl [0, 1, 2] rfl)
  | succ n ih =>
    intro k ls H locs hk hw hl
    have hkN : k < 8 := by omega
    refine lv_iload_n hx hb dVE_putTogether_4 rfl (lv_at hl 2 rfl) ?_
    refine lv_bipush (v := 8) hx hb dVE_putTogether_5 (by decide) ?_
    refine lv_icmp_gt (tgt := 41) hx hb dVE_putTogether_7 (by decide) (fun h7 => absurd h7 (nI_nlt (a := 8) (by omega) (by decide))) (fun h7 => ?_)
    refine lv_aload_n hx hb dVE_putTogether_10 rfl (lv_at hl 0 rfl) ?_
    refine lv_iload_n hx hb dVE_putTogether_11 rfl (lv_at hl 2 rfl) ?_
    refine x_calliD (ws' := [(q, .inr (4, [.int num, .ref q1, .ref q2, .int stt, .int sec, .int lk, .int th, .int sc, .int gset, .int gc])), (q1, .inl (cI, 9, .inl dg)), (q2, .inl (cI, 9, .inl gs))]) hw [0, 1, 2] rfl rfl (x_runV (n := 1) (rest := []) (As := [.int (nI (k + 1))]) S hw (k_isGiven l D cI cZ cV q q1 q2 dg gs num stt sec lk th sc gset gc (nI (k + 1)) _) xh_2_46 xh_2_59 xh_2_44 xh_2_45 xh_1_8 (by decide +kernel) ⟨by decide, by decide⟩ [0, 1, 2] rfl rfl (ci := 4) (q0 := 0) rfl rfl rfl hl.1 rfl (Nat.le_of_ble_eq_true rfl) dVE_putTogether_12 ⟨by decide, by decide⟩) rfl rfl (fun H locs hw => ?_)
    refine lv_if_eq (tgt := 35) hx hb dVE_putTogether_15 (by decide) (fun h15 => ?_) (fun h15 => ?_)
    · skip
      refine lv_iinc (v := nI ((k + 1) + 1)) (lv' := [(2, .int (nI ((k + 1) + 1))), (0, .ref q), (1, .int (ptF gset gs k))]) hx hb dVE_putTogether_35 hl (k := 2) rfl ((nI_succ _).symm) (by decide) rfl (fun ls hl => ?_)
      refine lv_goto (tgt := 4) hx hb dVE_putTogether_38 (by decide) ?_
      have e0 : ptF gset gs (k + 1) = ptF gset gs k := by simp only [ptF, if_pos h15]
      refine ih (k + 1) ls H locs (by omega) ?_ ?_
      · exact hw
      · rw [e0]; exact lv_sub hl [1, 2, 0] rfl
    refine lv_iload_n hx hb dVE_putTogether_18 rfl (lv_at hl 1 rfl) ?_
    refine lv_aload_n hx hb dVE_putTogether_19 rfl (lv_at hl 0 rfl) ?_
    refine x_get S hw (C := RVE) (T := TVE) (N := 10) inVE 0 rfl rfl 2 (by decide) xh_1_170 (v := .ref q2) rfl dVE_putTogether_20 ?_
    refine lv_iload_n hx hb dVE_putTogether_23 rfl (lv_at hl 2 rfl) ?_
    refine x_iald S hw 2 0 rfl rfl (j := (k + 1)) (vp_in_nI (by omega) (by omega)) (nI_clamp (by omega)) dVE_putTogether_24 ?_
    refine lv_aload_n hx hb dVE_putTogether_25 rfl (lv_at hl 0 rfl) ?_
    refine lv_iload_n hx hb dVE_putTogether_26 rfl (lv_at hl 2 rfl) ?_
    refine x_calliD (ws' := [(q, .inr (4, [.int num, .ref q1, .ref q2, .int stt, .int sec, .int lk, .int th, .int sc, .int gset, .int gc])), (q1, .inl (cI, 9, .inl dg)), (q2, .inl (cI, 9, .inl gs))]) hw [0, 1, 2] rfl rfl (x_runV (n := 1) (rest := [.int (gs (k + 1)), .int (ptF gset gs k)]) (As := [.int (nI (k + 1))]) S hw (k_weight l D cI cZ cV q q1 q2 dg gs num stt sec lk th sc gset gc (nI (k + 1)) _) xh_2_63 xh_2_60 xh_2_62 xsel_VE_weightAtZero xh_1_8 (by decide +kernel) ⟨by decide, by decide⟩ [0, 1, 2] rfl rfl (ci := 4) (q0 := 0) rfl rfl rfl hl.1 rfl (Nat.le_of_ble_eq_true rfl) dVE_putTogether_27 ⟨by decide, by decide⟩) rfl rfl (fun H locs hw => ?_)
    refine x_calliD (ws' := [(q, .inr (4, [.int num, .ref q1, .ref q2, .int stt, .int sec, .int lk, .int th, .int sc, .int gset, .int gc])), (q1, .inl (cI, 9, .inl dg)), (q2, .inl (cI, 9, .inl gs))]) hw [] rfl rfl (x_runS (n := 2) (rest := [.int (ptF gset gs k)]) (As := [.int (gs (k + 1)), .int (wzF gset (nI (k + 1)) 8)]) S hw (k_scaled l D cI cZ cV (gs (k + 1)) (wzF gset (nI (k + 1)) 8) _) xh_2_71 xh_2_69 xh_2_70 xh_1_8 (by decide +kernel) ⟨by decide, by decide⟩ [] rfl rfl rfl hl.1 rfl (Nat.le_of_ble_eq_true rfl) dVE_putTogether_30 ⟨by decide, by decide⟩) rfl rfl (fun H locs hw => ?_)
    refine lv_ixor hx hb dVE_putTogether_33 ?_
    refine lv_istore_n (lv' := [(1, .int (ptF gset gs k ^^^ (scF (gs (k + 1)) (wzF gset (nI (k + 1)) 8) 4))), (0, .ref q), (2, .int (nI (k + 1)))]) hx hb dVE_putTogether_34 rfl hl (by decide) rfl (fun ls hl => ?_)
    refine lv_iinc (v := nI ((k + 1) + 1)) (lv' := [(2, .int (nI ((k + 1) + 1))), (1, .int (ptF gset gs k ^^^ (scF (gs (k + 1)) (wzF gset (nI (k + 1)) 8) 4))), (0, .ref q)]) hx hb dVE_putTogether_35 hl (k := 2) rfl ((nI_succ _).symm) (by decide) rfl (fun ls hl => ?_)
    refine lv_goto (tgt := 4) hx hb dVE_putTogether_38 (by decide) ?_
    have e0 : ptF gset gs (k + 1) = ptF gset gs k ^^^ (scF (gs (k + 1)) (wzF gset (nI (k + 1)) 8) 4) := by simp only [ptF, if_neg h15]
    refine ih (k + 1) ls H locs (by omega) ?_ ?_
    · exact hw
    · rw [e0]; exact lv_sub hl [2, 1, 0] rfl

set_option maxHeartbeats 4000000 in
set_option maxRecDepth 100000 in
theorem k_together (l : Launch) (D : va_G) (cI cZ cV : ClassId) (q : Nat) (q1 : Nat) (q2 : Nat) (dg : Nat → Int32) (gs : Nat → Int32) (num : Int32) (stt : Int32) (sec : Int32) (lk : Int32) (th : Int32) (sc : Int32) (gset : Int32) (gc : Int32) : XI l yVE_putTogether cVE_putTogether 3 (some .int) D (xT3 cI cZ cV) 3 0 0 [.ref q] [(q, .inr (4, [.int num, .ref q1, .ref q2, .int stt, .int sec, .int lk, .int th, .int sc, .int gset, .int gc])), (q1, .inl (cI, 9, .inl dg)), (q2, .inl (cI, 9, .inl gs))] (fun r u => r = ptF gset gs 8 ∧ u = [(q, .inr (4, [.int num, .ref q1, .ref q2, .int stt, .int sec, .int lk, .int th, .int sc, .int gset, .int gc])), (q1, .inl (cI, 9, .inl dg)), (q2, .inl (cI, 9, .inl gs))]) := by
  intro sz
  refine x_ofW (Qc := fun A => va_Qi _ (xB D A) A) sz (by decide) (Nat.le_of_ble_eq_true rfl) ?_
  intro p e s m args below meth c A ls S hr hlk hnm hw hl
  obtain ⟨hx, hb, hml, hown, hts⟩ := id S
  have hl : lv_has ls 3 [(0, .ref q)] := hl
  refine lv_iconst (v := 0) hx hb dVE_putTogether_0 (by decide) ?_
  refine lv_istore_n (lv' := [(1, .int 0), (0, .ref q)]) hx hb dVE_putTogether_1 rfl hl (by decide) rfl (fun ls hl => ?_)
  refine lv_iconst (v := 1) hx hb dVE_putTogether_2 (by decide) ?_
  refine lv_istore_n (lv' := [(2, .int 1), (1, .int 0), (0, .ref q)]) hx hb dVE_putTogether_3 rfl hl (by decide) rfl (fun ls hl => ?_)
  refine lp_together rfl ⟨rfl, rfl⟩ S q q1 q2 dg gs num stt sec lk th sc gset gc (fun ls H locs hw hl => ?_) 8 0 ls _ _ (Nat.zero_add _) hw (lv_sub hl [2, 1, 0] rfl)
  refine lv_iload_n hx hb dVE_putTogether_41 rfl (lv_at hl 1 rfl) ?_
  exact x_iret S hr hlk hw (by decide) (by decide) (⟨rfl, rfl⟩) dVE_putTogether_42

set_option maxHeartbeats 4000000 in
set_option maxRecDepth 100000 in
theorem k_open (l : Launch) (D : va_G) (cI cZ cV : ClassId) (q : Nat) (q1 : Nat) (q2 : Nat) (dg : Nat → Int32) (gs : Nat → Int32) (num : Int32) (stt : Int32) (sec : Int32) (lk : Int32) (th : Int32) (sc : Int32) (gset : Int32) (gc : Int32) : XV l yVE_open cVE_open 1 none D (xT3 cI cZ cV) 4 0 0 [.ref q] [(q, .inr (4, [.int num, .ref q1, .ref q2, .int stt, .int sec, .int lk, .int th, .int sc, .int gset, .int gc])), (q1, .inl (cI, 9, .inl dg)), (q2, .inl (cI, 9, .inl gs))] (fun u => u = [(q, .inr (4, [.int num, .ref q1, .ref q2, .int stt, .int (ptF gset gs 8), .int 0, .int th, .int sc, .int 0, .int 0])), (q1, .inl (cI, 9, .inl dg)), (q2, .inl (cI, 9, .inl (flF gs 0 9)))]) := by
  intro sz
  refine x_ofW (Qc := fun A => va_Qv _ (xB D A) A) sz (by decide) (Nat.le_of_ble_eq_true rfl) ?_
  intro p e s m args below meth c A ls S hr hlk hnm hw hl
  obtain ⟨hx, hb, hml, hown, hts⟩ := id S
  have hl : lv_has ls 1 [(0, .ref q)] := hl
  refine lv_aload_n hx hb dVE_open_0 rfl (lv_at hl 0 rfl) ?_
  refine lv_aload_n hx hb dVE_open_1 rfl (lv_at hl 0 rfl) ?_
  refine x_calliD (ws' := [(q, .inr (4, [.int num, .ref q1, .ref q2, .int stt, .int sec, .int lk, .int th, .int sc, .int gset, .int gc])), (q1, .inl (cI, 9, .inl dg)), (q2, .inl (cI, 9, .inl gs))]) hw [0, 1, 2] rfl rfl (x_runV (n := 0) (rest := [.ref q]) (As := []) S hw (k_together l D cI cZ cV q q1 q2 dg gs num stt sec lk th sc gset gc _) xh_2_58 xh_2_55 xh_2_57 xsel_VE_putTogether xh_1_8 (by decide +kernel) ⟨by decide, by decide⟩ [0, 1, 2] rfl rfl (ci := 4) (q0 := 0) rfl rfl rfl hl.1 rfl (Nat.le_of_ble_eq_true rfl) dVE_open_2 ⟨by decide, by decide⟩) rfl rfl (fun H locs hw => ?_)
  refine x_put S hw (C := RVE) (T := TVE) (N := 10) inVE tyVE tyVE_ok nmVE 0 rfl rfl 4 (by decide) xh_1_173 rfl (v := .int (ptF gset gs 8)) rfl rfl (Nat.le_of_ble_eq_true rfl) (ws' := [(q, .inr (4, [.int num, .ref q1, .ref q2, .int stt, .int (ptF gset gs 8), .int lk, .int th, .int sc, .int gset, .int gc])), (q1, .inl (cI, 9, .inl dg)), (q2, .inl (cI, 9, .inl gs))]) rfl dVE_open_5 (fun H locs hw => ?_)
  refine lv_aload_n hx hb dVE_open_8 rfl (lv_at hl 0 rfl) ?_
  refine lv_iconst (v := 0) hx hb dVE_open_9 (by decide) ?_
  refine x_put S hw (C := RVE) (T := TVE) (N := 10) inVE tyVE tyVE_ok nmVE 0 rfl rfl 5 (by decide) xh_1_175 rfl (v := .int 0) rfl rfl (Nat.le_of_ble_eq_true rfl) (ws' := [(q, .inr (4, [.int num, .ref q1, .ref q2, .int stt, .int (ptF gset gs 8), .int 0, .int th, .int sc, .int gset, .int gc])), (q1, .inl (cI, 9, .inl dg)), (q2, .inl (cI, 9, .inl gs))]) rfl dVE_open_10 (fun H locs hw => ?_)
  refine lv_aload_n hx hb dVE_open_13 rfl (lv_at hl 0 rfl) ?_
  refine x_callvD (ws' := [(q, .inr (4, [.int num, .ref q1, .ref q2, .int stt, .int (ptF gset gs 8), .int 0, .int th, .int sc, .int 0, .int 0])), (q1, .inl (cI, 9, .inl dg)), (q2, .inl (cI, 9, .inl (flF gs 0 9)))]) hw [0, 1, 2] rfl rfl (x_runV (n := 0) (rest := []) (As := []) S hw (k_fgiv l D cI cZ cV q q1 q2 dg gs num stt (ptF gset gs 8) 0 th sc gset gc _) xh_1_232 xh_1_229 xh_1_231 xsel_VE_forgetGiven xh_1_8 (by decide +kernel) ⟨by decide, by decide⟩ [0, 1, 2] rfl rfl (ci := 4) (q0 := 0) rfl rfl rfl hl.1 rfl (Nat.le_of_ble_eq_true rfl) dVE_open_14 ⟨by decide, by decide⟩) rfl rfl (fun H locs hw => ?_)
  exact x_vret S hr hlk hw (by decide) (by decide) (rfl) dVE_open_17

set_option maxHeartbeats 4000000 in
set_option maxRecDepth 100000 in
theorem lp_take {p : Program} {l : Launch} {e : Env} {s : State} {m : MethodId} {args : Array Value} {below : List Frame} {meth : Method} {c : Code} {Q : State → Prop} {D : va_G} {A : Nat → Prop} {cI cZ cV : ClassId} {H0 : Heap} {R : Room} {cells slots : Nat} (hR : R = (xR 2 0 0)) (hC : cells = 0 ∧ slots = 0) (S : CallFix p m c cVE_takeEscrow 5 s args xAll "EscrowedVersions$Version") (q : Nat) (q1 : Nat) (q2 : Nat) (dg : Nat → Int32) (gs : Nat → Int32) (num : Int32) (stt : Int32) (sec : Int32) (lk : Int32) (th : Int32) (gset : Int32) (gc : Int32) (p0 : Nat) (p1 : Nat) (p2 : Nat) (sh : Nat → Int32) (C : Nat → Int32) (n9 : Int32) (n0 : Nat) (hn : n0 ≤ 8)
    (kk : ∀ (ls : Array Slot) (H : Heap) (locs : List Loc), xW D (xT3 cI cZ cV) A H0 H locs [(q, .inr (4, [.int num, .ref q1, .ref q2, .int stt, .int sec, .int lk, .int th, .int (nI n0), .int gset, .int gc])), (q1, .inl (cI, 9, .inl (teF dg sh n0))), (q2, .inl (cI, 9, .inl gs)), (p0, .inr (3, [.ref p1, .ref p2, .int n9])), (p1, .inl (cI, 9, .inl sh)), (p2, .inl (cI, 8, .inl C))] s → lv_has ls 5 [(0, .ref q), (1, .int th), (2, .int (nI n0)), (3, .ref p0), (4, .int (nI (n0 + 1)))] → W p l e R s m args below meth c H locs cells slots Q (F0 m 52 ls [])) :
    ∀ (n k : Nat) (ls : Array Slot) (H : Heap) (locs : List Loc), k + n = n0 → xW D (xT3 cI cZ cV) A H0 H locs [(q, .inr (4, [.int num, .ref q1, .ref q2, .int stt, .int sec, .int lk, .int th, .int (nI n0), .int gset, .int gc])), (q1, .inl (cI, 9, .inl (teF dg sh k))), (q2, .inl (cI, 9, .inl gs)), (p0, .inr (3, [.ref p1, .ref p2, .int n9])), (p1, .inl (cI, 9, .inl sh)), (p2, .inl (cI, 8, .inl C))] s → lv_has ls 5 [(0, .ref q), (1, .int th), (2, .int (nI n0)), (3, .ref p0), (4, .int (nI (k + 1)))] → W p l e R s m args below meth c H locs cells slots Q (F0 m 21 ls []) := by
  obtain ⟨hx, hb, hml, hown, hts⟩ := id S
  subst hR
  obtain ⟨rfl, rfl⟩ := hC
  intro n
  induction n with
  | zero =>
    intro k ls H locs hk hw hl
    obtain rfl : n0 = k := by omega
    refine lv_iload hx hb dVE_takeEscrow_21 (lv_at hl 4 rfl) ?_
    refine lv_iload_n hx hb dVE_takeEscrow_23 rfl (lv_at hl 2 rfl) ?_
    refine lv_icmp_gt (tgt := 52) hx hb dVE_takeEscrow_24 (by decide) (fun h24 => ?_) (fun h24 => absurd (nI_lt (by omega) (by omega)) h24)
    exact kk ls H locs hw (lv_sub hl [0, 1, 2, 3, 4] rfl)
  | succ n ih =>
    intro k ls H locs hk hw hl
    have hkN : k < n0 := by omega
    refine lv_iload hx hb dVE_takeEscrow_21 (lv_at hl 4 rfl) ?_
    refine lv_iload_n hx hb dVE_takeEscrow_23 rfl (lv_at hl 2 rfl) ?_
    refine lv_icmp_gt (tgt := 52) hx hb dVE_takeEscrow_24 (by decide) (fun h24 => absurd h24 (nI_nlt (by omega) (by omega))) (fun h24 => ?_)
    refine lv_aload_n hx hb dVE_takeEscrow_27 rfl (lv_at hl 0 rfl) ?_
    refine x_get S hw (C := RVE) (T := TVE) (N := 10) inVE 0 rfl rfl 1 (by decide) xh_1_169 (v := .ref q1) rfl dVE_takeEscrow_28 ?_
    refine lv_iload hx hb dVE_takeEscrow_31 (lv_at hl 4 rfl) ?_
    refine lv_iload hx hb dVE_takeEscrow_33 (lv_at hl 4 rfl) ?_
    refine lv_aload_n hx hb dVE_takeEscrow_35 rfl (lv_at hl 3 rfl) ?_
    refine x_getN S hw (C := RSP) (T := TSP) (N := 3) inSP 3 rfl rfl 0 (by decide) xh_1_85 (v := .ref p1) rfl dVE_takeEscrow_36 ?_
    refine lv_iload hx hb dVE_takeEscrow_39 (lv_at hl 4 rfl) ?_
    refine x_iald S hw 4 0 rfl rfl (j := (k + 1)) (vp_in_nI (by omega) (by omega)) (nI_clamp (by omega)) dVE_takeEscrow_41 ?_
    refine x_calliD (ws' := [(q, .inr (4, [.int num, .ref q1, .ref q2, .int stt, .int sec, .int lk, .int th, .int (nI n0), .int gset, .int gc])), (q1, .inl (cI, 9, .inl (teF dg sh k))), (q2, .inl (cI, 9, .inl gs)), (p0, .inr (3, [.ref p1, .ref p2, .int n9])), (p1, .inl (cI, 9, .inl sh)), (p2, .inl (cI, 8, .inl C))]) hw [] rfl rfl (x_runSN (n := 2) (rest := [.int (nI (k + 1)), .ref q1]) (As := [.int (nI (k + 1)), .int (sh (k + 1))]) S hw (k_dig l D cI cZ cV (nI (k + 1)) (sh (k + 1)) _) xh_2_17 xh_2_15 xh_2_16 xh_1_1 (by decide +kernel) ⟨by decide, by decide⟩ [] rfl rfl rfl hl.1 rfl (Nat.le_of_ble_eq_true rfl) dVE_takeEscrow_42 ⟨by decide, by decide⟩) rfl rfl (fun H locs hw => ?_)
    refine x_iast S hw 1 0 rfl rfl (j := (k + 1)) (vp_in_nI (by omega) (by omega)) (nI_clamp (by omega)) (ws' := [(q, .inr (4, [.int num, .ref q1, .ref q2, .int stt, .int sec, .int lk, .int th, .int (nI n0), .int gset, .int gc])), (q1, .inl (cI, 9, .inl (upd (teF dg sh k) (k + 1) (fDig (nI (k + 1)) (sh (k + 1)))))), (q2, .inl (cI, 9, .inl gs)), (p0, .inr (3, [.ref p1, .ref p2, .int n9])), (p1, .inl (cI, 9, .inl sh)), (p2, .inl (cI, 8, .inl C))]) rfl dVE_takeEscrow_45 (fun H locs hw => ?_)
    refine lv_iinc (v := nI ((k + 1) + 1)) (lv' := [(4, .int (nI ((k + 1) + 1))), (0, .ref q), (1, .int th), (2, .int (nI n0)), (3, .ref p0)]) hx hb dVE_takeEscrow_46 hl (k := 4) rfl ((nI_succ _).symm) (by decide) rfl (fun ls hl => ?_)
    refine lv_goto (tgt := 21) hx hb dVE_takeEscrow_49 (by decide) ?_
    have e0 : teF dg sh (k + 1) = upd (teF dg sh k) (k + 1) (fDig (nI (k + 1)) (sh (k + 1))) := by simp only [teF]
    refine ih (k + 1) ls H locs (by omega) ?_ ?_
    · rw [e0]; exact hw
    · exact lv_sub hl [1, 2, 3, 4, 0] rfl

set_option maxHeartbeats 4000000 in
set_option maxRecDepth 100000 in
theorem k_takeEscrow (l : Launch) (D : va_G) (cI cZ cV : ClassId) (q : Nat) (q1 : Nat) (q2 : Nat) (dg : Nat → Int32) (gs : Nat → Int32) (num : Int32) (stt : Int32) (sec : Int32) (lk : Int32) (th : Int32) (sc : Int32) (gset : Int32) (gc : Int32) (p0 : Nat) (p1 : Nat) (p2 : Nat) (sh : Nat → Int32) (C : Nat → Int32) (n9 : Int32) (t0 : Int32) (n0 : Nat) (hn : n0 ≤ 8) : XV l yVE_takeEscrow cVE_takeEscrow 5 none D (xT3 cI cZ cV) 2 0 0 [.ref q, .int t0, .int (nI n0), .ref p0] [(q, .inr (4, [.int num, .ref q1, .ref q2, .int stt, .int sec, .int lk, .int th, .int sc, .int gset, .int gc])), (q1, .inl (cI, 9, .inl dg)), (q2, .inl (cI, 9, .inl gs)), (p0, .inr (3, [.ref p1, .ref p2, .int n9])), (p1, .inl (cI, 9, .inl sh)), (p2, .inl (cI, 8, .inl C))] (fun u => u = [(q, .inr (4, [.int num, .ref q1, .ref q2, .int stt, .int sec, .int lk, .int t0, .int (nI n0), .int gset, .int gc])), (q1, .inl (cI, 9, .inl (teF (flF dg 0 9) sh n0))), (q2, .inl (cI, 9, .inl gs)), (p0, .inr (3, [.ref p1, .ref p2, .int n9])), (p1, .inl (cI, 9, .inl sh)), (p2, .inl (cI, 8, .inl C))]) := by
  intro sz
  refine x_ofW (Qc := fun A => va_Qv _ (xB D A) A) sz (by decide) (Nat.le_of_ble_eq_true rfl) ?_
  intro p e s m args below meth c A ls S hr hlk hnm hw hl
  obtain ⟨hx, hb, hml, hown, hts⟩ := id S
  have hl : lv_has ls 5 [(0, .ref q), (1, .int t0), (2, .int (nI n0)), (3, .ref p0)] := hl
  refine lv_aload_n hx hb dVE_takeEscrow_0 rfl (lv_at hl 0 rfl) ?_
  refine lv_iload_n hx hb dVE_takeEscrow_1 rfl (lv_at hl 1 rfl) ?_
  refine x_put S hw (C := RVE) (T := TVE) (N := 10) inVE tyVE tyVE_ok nmVE 0 rfl rfl 6 (by decide) xh_1_177 rfl (v := .int t0) rfl rfl (Nat.le_of_ble_eq_true rfl) (ws' := [(q, .inr (4, [.int num, .ref q1, .ref q2, .int stt, .int sec, .int lk, .int t0, .int sc, .int gset, .int gc])), (q1, .inl (cI, 9, .inl dg)), (q2, .inl (cI, 9, .inl gs)), (p0, .inr (3, [.ref p1, .ref p2, .int n9])), (p1, .inl (cI, 9, .inl sh)), (p2, .inl (cI, 8, .inl C))]) rfl dVE_takeEscrow_2 (fun H locs hw => ?_)
  refine lv_aload_n hx hb dVE_takeEscrow_5 rfl (lv_at hl 0 rfl) ?_
  refine lv_iload_n hx hb dVE_takeEscrow_6 rfl (lv_at hl 2 rfl) ?_
  refine x_put S hw (C := RVE) (T := TVE) (N := 10) inVE tyVE tyVE_ok nmVE 0 rfl rfl 7 (by decide) xh_1_179 rfl (v := .int (nI n0)) rfl rfl (Nat.le_of_ble_eq_true rfl) (ws' := [(q, .inr (4, [.int num, .ref q1, .ref q2, .int stt, .int sec, .int lk, .int t0, .int (nI n0), .int gset, .int gc])), (q1, .inl (cI, 9, .inl dg)), (q2, .inl (cI, 9, .inl gs)), (p0, .inr (3, [.ref p1, .ref p2, .int n9])), (p1, .inl (cI, 9, .inl sh)), (p2, .inl (cI, 8, .inl C))]) rfl dVE_takeEscrow_7 (fun H locs hw => ?_)
  refine lv_aload_n hx hb dVE_takeEscrow_10 rfl (lv_at hl 0 rfl) ?_
  refine x_get S hw (C := RVE) (T := TVE) (N := 10) inVE 0 rfl rfl 1 (by decide) xh_1_169 (v := .ref q1) rfl dVE_takeEscrow_11 ?_
  refine lv_iconst (v := 0) hx hb dVE_takeEscrow_14 (by decide) ?_
  refine x_callvD (ws' := [(q, .inr (4, [.int num, .ref q1, .ref q2, .int stt, .int sec, .int lk, .int t0, .int (nI n0), .int gset, .int gc])), (q1, .inl (cI, 9, .inl (flF dg 0 9))), (q2, .inl (cI, 9, .inl gs)), (p0, .inr (3, [.ref p1, .ref p2, .int n9])), (p1, .inl (cI, 9, .inl sh)), (p2, .inl (cI, 8, .inl C))]) hw [1] rfl rfl (x_runS (n := 2) (rest := []) (As := [.ref q1, .int 0]) S hw (k_fill l D cI cZ cV q1 9 dg 0 (by decide) _) xh_1_228 xh_1_226 xh_1_227 xh_1_9 (by decide +kernel) ⟨by decide, by decide⟩ [1] rfl rfl rfl hl.1 rfl (Nat.le_of_ble_eq_true rfl) dVE_takeEscrow_15 ⟨by decide, by decide⟩) rfl rfl (fun H locs hw => ?_)
  refine lv_iconst (v := 1) hx hb dVE_takeEscrow_18 (by decide) ?_
  refine lv_istore (lv' := [(4, .int 1), (0, .ref q), (1, .int t0), (2, .int (nI n0)), (3, .ref p0)]) hx hb dVE_takeEscrow_19 hl (by decide) rfl (fun ls hl => ?_)
  refine lp_take rfl ⟨rfl, rfl⟩ S q q1 q2 (flF dg 0 9) gs num stt sec lk t0 gset gc p0 p1 p2 sh C n9 n0 hn (fun ls H locs hw hl => ?_) n0 0 ls _ _ (Nat.zero_add _) hw (lv_sub hl [1, 2, 3, 4, 0] rfl)
  exact x_vret S hr hlk hw (by decide) (by decide) (rfl) dVE_takeEscrow_52
