set_option maxHeartbeats 4000000 in
set_option maxRecDepth 100000 in
theorem m_mix (l : Launch) (D : va_G) (cI cZ cV : ClassId) (h : Int32) (x : Int32) : XI l yMO_mix cMO_mix 3 (some .int) D (xT3 cI cZ cV) 0 0 0 [.int h, .int x] [] (fun r u => r = fMix h x ∧ u = []) := by
  intro sz
  refine x_ofW (Qc := fun A => va_Qi _ (xB D A) A) sz (by decide) (Nat.le_of_ble_eq_true rfl) ?_
  intro p e s m args below meth c A ls S hr hlk hnm hw hl
  obtain ⟨hx, hb, hml, hown, hts⟩ := id S
  have hl : lv_has ls 3 [(0, .int h), (1, .int x)] := hl
  refine lv_iload_n hx hb dMO_mix_0 rfl (lv_at hl 0 rfl) ?_
  refine lv_iload_n hx hb dMO_mix_1 rfl (lv_at hl 1 rfl) ?_
  refine lv_ixor hx hb dMO_mix_2 ?_
  refine lv_ldc hx hb hown (hts _ xh_3_10) dMO_mix_3 ?_
  refine lv_imul hx hb dMO_mix_5 ?_
  refine lv_ldc hx hb hown (hts _ xh_3_11) dMO_mix_6 ?_
  refine lv_iadd hx hb dMO_mix_8 ?_
  refine lv_istore_n (lv' := [(2, .int (((h ^^^ x) * 668265263) + 374761393)), (0, .int h), (1, .int x)]) hx hb dMO_mix_9 rfl hl (by decide) rfl (fun ls hl => ?_)
  refine lv_iload_n hx hb dMO_mix_10 rfl (lv_at hl 0 rfl) ?_
  refine lv_iload_n hx hb dMO_mix_11 rfl (lv_at hl 0 rfl) ?_
  refine lv_bipush (v := 15) hx hb dMO_mix_12 (by decide) ?_
  refine lv_iushr (v := (xushr (((h ^^^ x) * 668265263) + 374761393) 15)) hx hb dMO_mix_14 rfl ?_
  refine lv_ixor hx hb dMO_mix_15 ?_
  exact x_iret S hr hlk hw (by decide) (by decide) (⟨rfl, rfl⟩) dMO_mix_16

set_option maxHeartbeats 4000000 in
set_option maxRecDepth 100000 in
theorem m_mask (l : Launch) (D : va_G) (cI cZ cV : ClassId) (k : Int32) (c0 : Int32) : XI l yMO_mask cMO_mask 2 (some .int) D (xT3 cI cZ cV) 1 0 0 [.int k, .int c0] [] (fun r u => r = fPad k c0 ∧ u = []) := by
  intro sz
  refine x_ofW (Qc := fun A => va_Qi _ (xB D A) A) sz (by decide) (Nat.le_of_ble_eq_true rfl) ?_
  intro p e s m args below meth c A ls S hr hlk hnm hw hl
  obtain ⟨hx, hb, hml, hown, hts⟩ := id S
  have hl : lv_has ls 2 [(0, .int k), (1, .int c0)] := hl
  refine lv_iload_n hx hb dMO_mask_0 rfl (lv_at hl 0 rfl) ?_
  refine lv_iload_n hx hb dMO_mask_1 rfl (lv_at hl 1 rfl) ?_
  refine x_calliD (ws' := []) hw [] rfl rfl (x_runS (n := 2) (rest := []) (As := [.int k, .int c0]) S hw (m_mix l D cI cZ cV k c0 _) xh_3_9 xh_3_7 xh_3_8 xh_1_6 (by decide +kernel) ⟨by decide, by decide⟩ [] rfl rfl rfl hl.1 rfl (Nat.le_of_ble_eq_true rfl) dMO_mask_2 ⟨by decide, by decide⟩) rfl rfl (fun H locs hw => ?_)
  refine lv_iconst (v := 1) hx hb dMO_mask_5 (by decide) ?_
  refine x_calliD (ws' := []) hw [] rfl rfl (x_runS (n := 2) (rest := []) (As := [.int (fMix k c0), .int 1]) S hw (m_mix l D cI cZ cV (fMix k c0) 1 _) xh_3_9 xh_3_7 xh_3_8 xh_1_6 (by decide +kernel) ⟨by decide, by decide⟩ [] rfl rfl rfl hl.1 rfl (Nat.le_of_ble_eq_true rfl) dMO_mask_6 ⟨by decide, by decide⟩) rfl rfl (fun H locs hw => ?_)
  exact x_iret S hr hlk hw (by decide) (by decide) (⟨rfl, rfl⟩) dMO_mask_9

set_option maxHeartbeats 4000000 in
set_option maxRecDepth 100000 in
theorem m_mark (l : Launch) (D : va_G) (cI cZ cV : ClassId) (k : Int32) (c0 : Int32) (b : Int32) : XI l yMO_mark cMO_mark 3 (some .int) D (xT3 cI cZ cV) 1 0 0 [.int k, .int c0, .int b] [] (fun r u => r = fTag k c0 b ∧ u = []) := by
  intro sz
  refine x_ofW (Qc := fun A => va_Qi _ (xB D A) A) sz (by decide) (Nat.le_of_ble_eq_true rfl) ?_
  intro p e s m args below meth c A ls S hr hlk hnm hw hl
  obtain ⟨hx, hb, hml, hown, hts⟩ := id S
  have hl : lv_has ls 3 [(0, .int k), (1, .int c0), (2, .int b)] := hl
  refine lv_iload_n hx hb dMO_mark_0 rfl (lv_at hl 0 rfl) ?_
  refine lv_iconst (v := 2) hx hb dMO_mark_1 (by decide) ?_
  refine x_calliD (ws' := []) hw [] rfl rfl (x_runS (n := 2) (rest := []) (As := [.int k, .int 2]) S hw (m_mix l D cI cZ cV k 2 _) xh_3_9 xh_3_7 xh_3_8 xh_1_6 (by decide +kernel) ⟨by decide, by decide⟩ [] rfl rfl rfl hl.1 rfl (Nat.le_of_ble_eq_true rfl) dMO_mark_2 ⟨by decide, by decide⟩) rfl rfl (fun H locs hw => ?_)
  refine lv_iload_n hx hb dMO_mark_5 rfl (lv_at hl 1 rfl) ?_
  refine x_calliD (ws' := []) hw [] rfl rfl (x_runS (n := 2) (rest := []) (As := [.int (fMix k 2), .int c0]) S hw (m_mix l D cI cZ cV (fMix k 2) c0 _) xh_3_9 xh_3_7 xh_3_8 xh_1_6 (by decide +kernel) ⟨by decide, by decide⟩ [] rfl rfl rfl hl.1 rfl (Nat.le_of_ble_eq_true rfl) dMO_mark_6 ⟨by decide, by decide⟩) rfl rfl (fun H locs hw => ?_)
  refine lv_iload_n hx hb dMO_mark_9 rfl (lv_at hl 2 rfl) ?_
  refine x_calliD (ws' := []) hw [] rfl rfl (x_runS (n := 2) (rest := []) (As := [.int (fMix (fMix k 2) c0), .int b]) S hw (m_mix l D cI cZ cV (fMix (fMix k 2) c0) b _) xh_3_9 xh_3_7 xh_3_8 xh_1_6 (by decide +kernel) ⟨by decide, by decide⟩ [] rfl rfl rfl hl.1 rfl (Nat.le_of_ble_eq_true rfl) dMO_mark_10 ⟨by decide, by decide⟩) rfl rfl (fun H locs hw => ?_)
  refine lv_ldc hx hb hown (hts _ xh_3_68) dMO_mark_13 ?_
  refine lv_iand hx hb dMO_mark_15 ?_
  exact x_iret S hr hlk hw (by decide) (by decide) (⟨rfl, rfl⟩) dMO_mark_16

set_option maxHeartbeats 4000000 in
set_option maxRecDepth 100000 in
theorem m_byteOf (l : Launch) (D : va_G) (cI cZ cV : ClassId) (w : Int32) (k : Int32) : XI l yMO_byteOf cMO_byteOf 2 (some .int) D (xT3 cI cZ cV) 0 0 0 [.int w, .int k] [] (fun r u => r = fByt w k ∧ u = []) := by
  intro sz
  refine x_ofW (Qc := fun A => va_Qi _ (xB D A) A) sz (by decide) (Nat.le_of_ble_eq_true rfl) ?_
  intro p e s m args below meth c A ls S hr hlk hnm hw hl
  obtain ⟨hx, hb, hml, hown, hts⟩ := id S
  have hl : lv_has ls 2 [(0, .int w), (1, .int k)] := hl
  refine lv_iload_n hx hb dMO_byteOf_0 rfl (lv_at hl 0 rfl) ?_
  refine lv_bipush (v := 24) hx hb dMO_byteOf_1 (by decide) ?_
  refine lv_bipush (v := 8) hx hb dMO_byteOf_3 (by decide) ?_
  refine lv_iload_n hx hb dMO_byteOf_5 rfl (lv_at hl 1 rfl) ?_
  refine lv_imul hx hb dMO_byteOf_6 ?_
  refine lv_isub hx hb dMO_byteOf_7 ?_
  refine lv_ishr hx hb dMO_byteOf_8 ?_
  refine lv_sipush (v := 255) hx hb dMO_byteOf_9 (by decide) ?_
  refine lv_iand hx hb dMO_byteOf_12 ?_
  exact x_iret S hr hlk hw (by decide) (by decide) (⟨rfl, rfl⟩) dMO_byteOf_13

set_option maxHeartbeats 4000000 in
set_option maxRecDepth 100000 in
theorem ml_prod {p : Program} {l : Launch} {e : Env} {s : State} {m : MethodId} {args : Array Value} {below : List Frame} {meth : Method} {c : Code} {Q : State → Prop} {D : va_G} {A : Nat → Prop} {cI cZ cV : ClassId} {H0 : Heap} {R : Room} {cells slots : Nat} (hR : R = (xR 0 0 0)) (hC : cells = 0 ∧ slots = 0) (S : CallFix p m c cMO_product 5 s args xAll "EscrowedVersionsModel") (a : Int32) (b : Int32)
    (kk : ∀ (ls : Array Slot) (H : Heap) (locs : List Loc), xW D (xT3 cI cZ cV) A H0 H locs [] s → lv_has ls 5 [(0, .int a), (1, .int b), (2, .int ((prG a b 8).1)), (3, .int ((prG a b 8).2)), (4, .int (nI 8))] → W p l e R s m args below meth c H locs cells slots Q (F0 m 59 ls [])) :
    ∀ (n k : Nat) (ls : Array Slot) (H : Heap) (locs : List Loc), k + n = 8 → xW D (xT3 cI cZ cV) A H0 H locs [] s → lv_has ls 5 [(0, .int a), (1, .int b), (2, .int ((prG a b k).1)), (3, .int ((prG a b k).2)), (4, .int (nI k))] → W p l e R s m args below meth c H locs cells slots Q (F0 m 7 ls []) := by
  obtain ⟨hx, hb, hml, hown, hts⟩ := id S
  subst hR
  obtain ⟨rfl, rfl⟩ := hC
  intro n
  induction n with
  | zero =>
    intro k ls H locs hk hw hl
    obtain rfl : 8 = k := by omega
    refine lv_iload hx hb dMO_product_7 (lv_at hl 4 rfl) ?_
    refine lv_bipush (v := 8) hx hb dMO_product_9 (by decide) ?_
    refine lv_icmp_ge (tgt := 59) hx hb dMO_product_11 (by decide) (fun h11 => ?_) (fun h11 => absurd (by decide +kernel) h11)
    exact kk ls H locs hw (lv_sub hl [0, 1, 2, 3, 4] rfl)
  | succ n ih =>
    intro k ls H locs hk hw hl
    have hkN : k < 8 := by omega
    refine lv_iload hx hb dMO_product_7 (lv_at hl 4 rfl) ?_
    refine lv_bipush (v := 8) hx hb dMO_product_9 (by decide) ?_
    refine lv_icmp_ge (tgt := 59) hx hb dMO_product_11 (by decide) (fun h11 => absurd h11 (nI_ge hkN (by decide))) (fun h11 => ?_)
    refine lv_iload_n hx hb dMO_product_14 rfl (lv_at hl 1 rfl) ?_
    refine lv_iload hx hb dMO_product_15 (lv_at hl 4 rfl) ?_
    refine lv_ishr hx hb dMO_product_17 ?_
    refine lv_iconst (v := 1) hx hb dMO_product_18 (by decide) ?_
    refine lv_iand hx hb dMO_product_19 ?_
    refine lv_iconst (v := 1) hx hb dMO_product_20 (by decide) ?_
    refine lv_icmp_ne (tgt := 30) hx hb dMO_product_21 (by decide) (fun h21 => ?_) (fun h21 => ?_)
    · skip
      refine lv_iload_n hx hb dMO_product_30 rfl (lv_at hl 2 rfl) ?_
      refine lv_istore_n (lv' := [(2, .int ((prG a b k).1)), (0, .int a), (1, .int b), (3, .int ((prG a b k).2)), (4, .int (nI k))]) hx hb dMO_product_31 rfl hl (by decide) rfl (fun ls hl => ?_)
      refine lv_iload_n hx hb dMO_product_32 rfl (lv_at hl 3 rfl) ?_
      refine lv_iconst (v := 2) hx hb dMO_product_33 (by decide) ?_
      refine lv_imul hx hb dMO_product_34 ?_
      refine lv_istore_n (lv' := [(3, .int ((prG a b k).2 * 2)), (2, .int ((prG a b k).1)), (0, .int a), (1, .int b), (4, .int (nI k))]) hx hb dMO_product_35 rfl hl (by decide) rfl (fun ls hl => ?_)
      refine lv_iload_n hx hb dMO_product_36 rfl (lv_at hl 0 rfl) ?_
      refine lv_sipush (v := 255) hx hb dMO_product_37 (by decide) ?_
      refine lv_icmp_le (tgt := 51) hx hb dMO_product_40 (by decide) (fun h40 => ?_) (fun h40 => ?_)
      · skip
        refine lv_iload_n hx hb dMO_product_51 rfl (lv_at hl 0 rfl) ?_
        refine lv_istore_n (lv' := [(3, .int ((prG a b k).2 * 2)), (2, .int ((prG a b k).1)), (0, .int a), (1, .int b), (4, .int (nI k))]) hx hb dMO_product_52 rfl hl (by decide) rfl (fun ls hl => ?_)
        refine lv_iinc (v := nI (k + 1)) (lv' := [(4, .int (nI (k + 1))), (3, .int ((prG a b k).2 * 2)), (2, .int ((prG a b k).1)), (0, .int a), (1, .int b)]) hx hb dMO_product_53 hl (k := 4) rfl ((nI_succ _).symm) (by decide) rfl (fun ls hl => ?_)
        refine lv_goto (tgt := 7) hx hb dMO_product_56 (by decide) ?_
        have e0 : (prG a b (k + 1)).1 = (prG a b k).1 := by simp only [prG, if_neg h21, if_pos h40]
        have e1 : (prG a b (k + 1)).2 = (prG a b k).2 * 2 := by simp only [prG, if_neg h21, if_pos h40]
        refine ih (k + 1) ls H locs (by omega) ?_ ?_
        · exact hw
        · rw [e0, e1]; exact lv_sub hl [3, 4, 2, 1, 0] rfl
      refine lv_iload_n hx hb dMO_product_43 rfl (lv_at hl 0 rfl) ?_
      refine lv_sipush (v := 283) hx hb dMO_product_44 (by decide) ?_
      refine lv_ixor hx hb dMO_product_47 ?_
      refine lv_goto (tgt := 52) hx hb dMO_product_48 (by decide) ?_
      refine lv_istore_n (lv' := [(3, .int (((prG a b k).2 * 2) ^^^ 283)), (2, .int ((prG a b k).1)), (0, .int a), (1, .int b), (4, .int (nI k))]) hx hb dMO_product_52 rfl hl (by decide) rfl (fun ls hl => ?_)
      refine lv_iinc (v := nI (k + 1)) (lv' := [(4, .int (nI (k + 1))), (3, .int (((prG a b k).2 * 2) ^^^ 283)), (2, .int ((prG a b k).1)), (0, .int a), (1, .int b)]) hx hb dMO_product_53 hl (k := 4) rfl ((nI_succ _).symm) (by decide) rfl (fun ls hl => ?_)
      refine lv_goto (tgt := 7) hx hb dMO_product_56 (by decide) ?_
      have e0 : (prG a b (k + 1)).1 = (prG a b k).1 := by simp only [prG, if_neg h21, if_neg h40]
      have e1 : (prG a b (k + 1)).2 = ((prG a b k).2 * 2) ^^^ 283 := by simp only [prG, if_neg h21, if_neg h40]
      refine ih (k + 1) ls H locs (by omega) ?_ ?_
      · exact hw
      · rw [e0, e1]; exact lv_sub hl [3, 4, 2, 1, 0] rfl
    refine lv_iload_n hx hb dMO_product_24 rfl (lv_at hl 2 rfl) ?_
    refine lv_iload_n hx hb dMO_product_25 rfl (lv_at hl 3 rfl) ?_
    refine lv_ixor hx hb dMO_product_26 ?_
    refine lv_goto (tgt := 31) hx hb dMO_product_27 (by decide) ?_
    refine lv_istore_n (lv' := [(2, .int (((prG a b k).1) ^^^ ((prG a b k).2))), (0, .int a), (1, .int b), (3, .int ((prG a b k).2)), (4, .int (nI k))]) hx hb dMO_product_31 rfl hl (by decide) rfl (fun ls hl => ?_)
    refine lv_iload_n hx hb dMO_product_32 rfl (lv_at hl 3 rfl) ?_
    refine lv_iconst (v := 2) hx hb dMO_product_33 (by decide) ?_
    refine lv_imul hx hb dMO_product_34 ?_
    refine lv_istore_n (lv' := [(3, .int ((prG a b k).2 * 2)), (2, .int (((prG a b k).1) ^^^ ((prG a b k).2))), (0, .int a), (1, .int b), (4, .int (nI k))]) hx hb dMO_product_35 rfl hl (by decide) rfl (fun ls hl => ?_)
    refine lv_iload_n hx hb dMO_product_36 rfl (lv_at hl 0 rfl) ?_
    refine lv_sipush (v := 255) hx hb dMO_product_37 (by decide) ?_
    refine lv_icmp_le (tgt := 51) hx hb dMO_product_40 (by decide) (fun h40 => ?_) (fun h40 => ?_)
    · skip
      refine lv_iload_n hx hb dMO_product_51 rfl (lv_at hl 0 rfl) ?_
      refine lv_istore_n (lv' := [(3, .int ((prG a b k).2 * 2)), (2, .int (((prG a b k).1) ^^^ ((prG a b k).2))), (0, .int a), (1, .int b), (4, .int (nI k))]) hx hb dMO_product_52 rfl hl (by decide) rfl (fun ls hl => ?_)
      refine lv_iinc (v := nI (k + 1)) (lv' := [(4, .int (nI (k + 1))), (3, .int ((prG a b k).2 * 2)), (2, .int (((prG a b k).1) ^^^ ((prG a b k).2))), (0, .int a), (1, .int b)]) hx hb dMO_product_53 hl (k := 4) rfl ((nI_succ _).symm) (by decide) rfl (fun ls hl => ?_)
      refine lv_goto (tgt := 7) hx hb dMO_product_56 (by decide) ?_
      have e0 : (prG a b (k + 1)).1 = ((prG a b k).1) ^^^ ((prG a b k).2) := by simp only [prG, if_pos h21, if_pos h40]
      have e1 : (prG a b (k + 1)).2 = (prG a b k).2 * 2 := by simp only [prG, if_pos h21, if_pos h40]
      refine ih (k + 1) ls H locs (by omega) ?_ ?_
      · exact hw
      · rw [e0, e1]; exact lv_sub hl [3, 4, 2, 1, 0] rfl
    refine lv_iload_n hx hb dMO_product_43 rfl (lv_at hl 0 rfl) ?_
    refine lv_sipush (v := 283) hx hb dMO_product_44 (by decide) ?_
    refine lv_ixor hx hb dMO_product_47 ?_
    refine lv_goto (tgt := 52) hx hb dMO_product_48 (by decide) ?_
    refine lv_istore_n (lv' := [(3, .int (((prG a b k).2 * 2) ^^^ 283)), (2, .int (((prG a b k).1) ^^^ ((prG a b k).2))), (0, .int a), (1, .int b), (4, .int (nI k))]) hx hb dMO_product_52 rfl hl (by decide) rfl (fun ls hl => ?_)
    refine lv_iinc (v := nI (k + 1)) (lv' := [(4, .int (nI (k + 1))), (3, .int (((prG a b k).2 * 2) ^^^ 283)), (2, .int (((prG a b k).1) ^^^ ((prG a b k).2))), (0, .int a), (1, .int b)]) hx hb dMO_product_53 hl (k := 4) rfl ((nI_succ _).symm) (by decide) rfl (fun ls hl => ?_)
    refine lv_goto (tgt := 7) hx hb dMO_product_56 (by decide) ?_
    have e0 : (prG a b (k + 1)).1 = ((prG a b k).1) ^^^ ((prG a b k).2) := by simp only [prG, if_pos h21, if_neg h40]
    have e1 : (prG a b (k + 1)).2 = ((prG a b k).2 * 2) ^^^ 283 := by simp only [prG, if_pos h21, if_neg h40]
    refine ih (k + 1) ls H locs (by omega) ?_ ?_
    · exact hw
    · rw [e0, e1]; exact lv_sub hl [3, 4, 2, 1, 0] rfl

set_option maxHeartbeats 4000000 in
set_option maxRecDepth 100000 in
theorem m_prod (l : Launch) (D : va_G) (cI cZ cV : ClassId) (a : Int32) (b : Int32) : XI l yMO_product cMO_product 5 (some .int) D (xT3 cI cZ cV) 0 0 0 [.int a, .int b] [] (fun r u => r = fProd a b ∧ u = []) := by
  intro sz
  refine x_ofW (Qc := fun A => va_Qi _ (xB D A) A) sz (by decide) (Nat.le_of_ble_eq_true rfl) ?_
  intro p e s m args below meth c A ls S hr hlk hnm hw hl
  obtain ⟨hx, hb, hml, hown, hts⟩ := id S
  have hl : lv_has ls 5 [(0, .int a), (1, .int b)] := hl
  refine lv_iconst (v := 0) hx hb dMO_product_0 (by decide) ?_
  refine lv_istore_n (lv' := [(2, .int 0), (0, .int a), (1, .int b)]) hx hb dMO_product_1 rfl hl (by decide) rfl (fun ls hl => ?_)
  refine lv_iload_n hx hb dMO_product_2 rfl (lv_at hl 1 rfl) ?_
  refine lv_istore_n (lv' := [(3, .int a), (2, .int 0), (0, .int a), (1, .int b)]) hx hb dMO_product_3 rfl hl (by decide) rfl (fun ls hl => ?_)
  refine lv_iconst (v := 0) hx hb dMO_product_4 (by decide) ?_
  refine lv_istore (lv' := [(4, .int 0), (3, .int a), (2, .int 0), (0, .int a), (1, .int b)]) hx hb dMO_product_5 hl (by decide) rfl (fun ls hl => ?_)
  refine ml_prod rfl ⟨rfl, rfl⟩ S a b (fun ls H locs hw hl => ?_) 8 0 ls _ _ (Nat.zero_add _) hw (lv_sub hl [3, 4, 2, 1, 0] rfl)
  refine lv_iload_n hx hb dMO_product_59 rfl (lv_at hl 2 rfl) ?_
  exact x_iret S hr hlk hw (by decide) (by decide) (⟨by unfold fProd; rw [← prG_F], rfl⟩) dMO_product_60

set_option maxHeartbeats 4000000 in
set_option maxRecDepth 100000 in
theorem ml_quot {p : Program} {l : Launch} {e : Env} {s : State} {m : MethodId} {args : Array Value} {below : List Frame} {meth : Method} {c : Code} {Q : State → Prop} {D : va_G} {A : Nat → Prop} {cI cZ cV : ClassId} {H0 : Heap} {R : Room} {cells slots : Nat} (hR : R = (xR 1 0 0)) (hC : cells = 0 ∧ slots = 0) (S : CallFix p m c cMO_quotient 3 s args xAll "EscrowedVersionsModel") (a : Nat) (b : Nat) (ha : a < 256) (hb9 : 0 < b ∧ b < 16)
    (kk : ∀ (ls : Array Slot) (H : Heap) (locs : List Loc), xW D (xT3 cI cZ cV) A H0 H locs [] s → lv_has ls 3 [(0, .int (nI a)), (1, .int (nI b)), (2, .int (nI (gm a (iv b))))] → W p l e R s m args below meth c H locs cells slots Q (F0 m 24 ls [])) :
    ∀ (n k : Nat) (ls : Array Slot) (H : Heap) (locs : List Loc), k + n = gm a (iv b) → xW D (xT3 cI cZ cV) A H0 H locs [] s → lv_has ls 3 [(0, .int (nI a)), (1, .int (nI b)), (2, .int (nI k))] → W p l e R s m args below meth c H locs cells slots Q (F0 m 2 ls []) := by
  obtain ⟨hx, hb, hml, hown, hts⟩ := id S
  subst hR
  obtain ⟨rfl, rfl⟩ := hC
  intro n
  induction n with
  | zero =>
    intro k ls H locs hk hw hl
    obtain rfl : gm a (iv b) = k := by omega
    refine lv_iload_n hx hb dMO_quotient_2 rfl (lv_at hl 2 rfl) ?_
    refine lv_sipush (v := 255) hx hb dMO_quotient_3 (by decide) ?_
    refine lv_icmp_ge (tgt := 24) hx hb dMO_quotient_6 (by decide) (fun h6 => ?_) (fun h6 => ?_)
    · skip
      exact kk ls H locs hw (lv_sub hl [0, 1, 2] rfl)
    refine lv_iload_n hx hb dMO_quotient_9 rfl (lv_at hl 2 rfl) ?_
    refine lv_iload_n hx hb dMO_quotient_10 rfl (lv_at hl 1 rfl) ?_
    refine x_calliD (ws' := []) hw [] rfl rfl (x_runS (n := 2) (rest := []) (As := [.int (nI (gm a (iv b))), .int (nI b)]) S hw (m_prod l D cI cZ cV (nI (gm a (iv b))) (nI b) _) xh_2_230 xh_2_228 xh_2_229 xh_1_6 (by decide +kernel) ⟨by decide, by decide⟩ [] rfl rfl rfl hl.1 rfl (Nat.le_of_ble_eq_true rfl) dMO_quotient_11 ⟨by decide, by decide⟩) rfl rfl (fun H locs hw => ?_)
    refine lv_iload_n hx hb dMO_quotient_14 rfl (lv_at hl 0 rfl) ?_
    refine lv_icmp_eq (tgt := 24) hx hb dMO_quotient_15 (by decide) (fun h15 => ?_) (fun h15 => absurd (quo_eq ha hb9) h15)
    exact kk ls H locs hw (lv_sub hl [0, 1, 2] rfl)
  | succ n ih =>
    intro k ls H locs hk hw hl
    have hkN : k < gm a (iv b) := by omega
    refine lv_iload_n hx hb dMO_quotient_2 rfl (lv_at hl 2 rfl) ?_
    refine lv_sipush (v := 255) hx hb dMO_quotient_3 (by decide) ?_
    refine lv_icmp_ge (tgt := 24) hx hb dMO_quotient_6 (by decide) (fun h6 => absurd h6 (nI_ge (b := 255) (by have := gm_lt ha (iv_lt b); omega) (by decide))) (fun h6 => ?_)
    refine lv_iload_n hx hb dMO_quotient_9 rfl (lv_at hl 2 rfl) ?_
    refine lv_iload_n hx hb dMO_quotient_10 rfl (lv_at hl 1 rfl) ?_
    refine x_calliD (ws' := []) hw [] rfl rfl (x_runS (n := 2) (rest := []) (As := [.int (nI k), .int (nI b)]) S hw (m_prod l D cI cZ cV (nI k) (nI b) _) xh_2_230 xh_2_228 xh_2_229 xh_1_6 (by decide +kernel) ⟨by decide, by decide⟩ [] rfl rfl rfl hl.1 rfl (Nat.le_of_ble_eq_true rfl) dMO_quotient_11 ⟨by decide, by decide⟩) rfl rfl (fun H locs hw => ?_)
    refine lv_iload_n hx hb dMO_quotient_14 rfl (lv_at hl 0 rfl) ?_
    refine lv_icmp_eq (tgt := 24) hx hb dMO_quotient_15 (by decide) (fun h15 => absurd h15 (quo_ne ha hb9 hkN)) (fun h15 => ?_)
    refine lv_iinc (v := nI (k + 1)) (lv' := [(2, .int (nI (k + 1))), (0, .int (nI a)), (1, .int (nI b))]) hx hb dMO_quotient_18 hl (k := 2) rfl ((nI_succ _).symm) (by decide) rfl (fun ls hl => ?_)
    refine lv_goto (tgt := 2) hx hb dMO_quotient_21 (by decide) ?_
    refine ih (k + 1) ls H locs (by omega) ?_ ?_
    · exact hw
    · exact lv_sub hl [1, 2, 0] rfl

set_option maxHeartbeats 4000000 in
set_option maxRecDepth 100000 in
theorem m_quot (l : Launch) (D : va_G) (cI cZ cV : ClassId) (a : Nat) (b : Nat) (ha : a < 256) (hb9 : 0 < b ∧ b < 16) : XI l yMO_quotient cMO_quotient 3 (some .int) D (xT3 cI cZ cV) 1 0 0 [.int (nI a), .int (nI b)] [] (fun r u => r = nI (gm a (iv b)) ∧ u = []) := by
  intro sz
  refine x_ofW (Qc := fun A => va_Qi _ (xB D A) A) sz (by decide) (Nat.le_of_ble_eq_true rfl) ?_
  intro p e s m args below meth c A ls S hr hlk hnm hw hl
  obtain ⟨hx, hb, hml, hown, hts⟩ := id S
  have hl : lv_has ls 3 [(0, .int (nI a)), (1, .int (nI b))] := hl
  refine lv_iconst (v := 0) hx hb dMO_quotient_0 (by decide) ?_
  refine lv_istore_n (lv' := [(2, .int 0), (0, .int (nI a)), (1, .int (nI b))]) hx hb dMO_quotient_1 rfl hl (by decide) rfl (fun ls hl => ?_)
  refine ml_quot rfl ⟨rfl, rfl⟩ S a b ha hb9 (fun ls H locs hw hl => ?_) (gm a (iv b)) 0 ls _ _ (Nat.zero_add _) hw (lv_sub hl [1, 2, 0] rfl)
  refine lv_iload_n hx hb dMO_quotient_24 rfl (lv_at hl 2 rfl) ?_
  exact x_iret S hr hlk hw (by decide) (by decide) (⟨rfl, rfl⟩) dMO_quotient_25

set_option maxHeartbeats 4000000 in
set_option maxRecDepth 100000 in
theorem ml_pay {p : Program} {l : Launch} {e : Env} {s : State} {m : MethodId} {args : Array Value} {below : List Frame} {meth : Method} {c : Code} {Q : State → Prop} {D : va_G} {A : Nat → Prop} {cI cZ cV : ClassId} {H0 : Heap} {R : Room} {cells slots : Nat} (hR : R = (xR 0 0 0)) (hC : cells = 0 ∧ slots = 0) (S : CallFix p m c cMO_pay 3 s args xAll "EscrowedVersionsModel") (g : Nat) (mP : Nat) (mS : Nat) (mK : Nat) (mL : Nat) (mT : Nat) (mZ : Nat) (mD : Nat) (mH : Nat) (mG : Nat) (mC : Nat) (m1 : Nat) (m2 : Nat) (m3 : Nat) (m4 : Nat) (mB : Nat) (mX : Nat) (mY : Nat) (cnt : Int32) (cuts : Int32) (lin : Int32) (siz : Int32) (ctr : Int32) (pu : Nat → Int32) (v9 : Int32) (n0 : Nat) (hn : n0 < 64)
    (kk : ∀ (ls : Array Slot) (H : Heap) (locs : List Loc), xW D (xT3 cI cZ cV) A H0 H locs [(g, .inr (6, [.ref mP, .int (nI n0), .int cnt, .ref mS, .ref mK, .ref mL, .ref mT, .ref mZ, .ref mD, .ref mH, .ref mG, .ref mC, .int cuts, .int lin, .ref m1, .ref m2, .ref m3, .ref m4, .ref mB, .int siz, .int ctr, .ref mX, .ref mY])), (mP, .inl (cI, 64, .inl (pyF pu n0)))] s → lv_has ls 3 [(0, .ref g), (1, .int v9), (2, .int (nI n0))] → W p l e R s m args below meth c H locs cells slots Q (F0 m 47 ls [])) :
    ∀ (n k : Nat) (ls : Array Slot) (H : Heap) (locs : List Loc), k + n = n0 → xW D (xT3 cI cZ cV) A H0 H locs [(g, .inr (6, [.ref mP, .int (nI n0), .int cnt, .ref mS, .ref mK, .ref mL, .ref mT, .ref mZ, .ref mD, .ref mH, .ref mG, .ref mC, .int cuts, .int lin, .ref m1, .ref m2, .ref m3, .ref m4, .ref mB, .int siz, .int ctr, .ref mX, .ref mY])), (mP, .inl (cI, 64, .inl (pyF pu k)))] s → lv_has ls 3 [(0, .ref g), (1, .int v9), (2, .int (nI k))] → W p l e R s m args below meth c H locs cells slots Q (F0 m 19 ls []) := by
  obtain ⟨hx, hb, hml, hown, hts⟩ := id S
  subst hR
  obtain ⟨rfl, rfl⟩ := hC
  intro n
  induction n with
  | zero =>
    intro k ls H locs hk hw hl
    obtain rfl : n0 = k := by omega
    refine lv_iload_n hx hb dMO_pay_19 rfl (lv_at hl 2 rfl) ?_
    refine lv_aload_n hx hb dMO_pay_20 rfl (lv_at hl 0 rfl) ?_
    refine x_get S hw (C := RMO) (T := TMO) (N := 23) inMO 0 rfl rfl 1 (by decide) xh_2_146 (v := .int (nI n0)) rfl dMO_pay_21 ?_
    refine lv_icmp_ge (tgt := 47) hx hb dMO_pay_24 (by decide) (fun h24 => ?_) (fun h24 => absurd (nI_le (Nat.le_refl _) (by omega)) h24)
    exact kk ls H locs hw (lv_sub hl [0, 1, 2] rfl)
  | succ n ih =>
    intro k ls H locs hk hw hl
    have hkN : k < n0 := by omega
    refine lv_iload_n hx hb dMO_pay_19 rfl (lv_at hl 2 rfl) ?_
    refine lv_aload_n hx hb dMO_pay_20 rfl (lv_at hl 0 rfl) ?_
    refine x_get S hw (C := RMO) (T := TMO) (N := 23) inMO 0 rfl rfl 1 (by decide) xh_2_146 (v := .int (nI n0)) rfl dMO_pay_21 ?_
    refine lv_icmp_ge (tgt := 47) hx hb dMO_pay_24 (by decide) (fun h24 => absurd h24 (nI_ge hkN (by omega))) (fun h24 => ?_)
    refine lv_aload_n hx hb dMO_pay_27 rfl (lv_at hl 0 rfl) ?_
    refine x_get S hw (C := RMO) (T := TMO) (N := 23) inMO 0 rfl rfl 0 (by decide) xh_2_145 (v := .ref mP) rfl dMO_pay_28 ?_
    refine lv_iload_n hx hb dMO_pay_31 rfl (lv_at hl 2 rfl) ?_
    refine lv_aload_n hx hb dMO_pay_32 rfl (lv_at hl 0 rfl) ?_
    refine x_get S hw (C := RMO) (T := TMO) (N := 23) inMO 0 rfl rfl 0 (by decide) xh_2_145 (v := .ref mP) rfl dMO_pay_33 ?_
    refine lv_iload_n hx hb dMO_pay_36 rfl (lv_at hl 2 rfl) ?_
    refine lv_iconst (v := 1) hx hb dMO_pay_37 (by decide) ?_
    refine lv_iadd hx hb dMO_pay_38 ?_
    refine x_topi (y := nI (k + 1)) ((nI_succ _).symm) ?_
    refine x_iald S hw 1 0 rfl rfl (j := (k + 1)) (vp_in_nI (by omega) (by omega)) (nI_clamp (by omega)) dMO_pay_39 ?_
    refine x_iast S hw 1 0 rfl rfl (j := k) (vp_in_nI (by omega) (by omega)) (nI_clamp (by omega)) (ws' := [(g, .inr (6, [.ref mP, .int (nI n0), .int cnt, .ref mS, .ref mK, .ref mL, .ref mT, .ref mZ, .ref mD, .ref mH, .ref mG, .ref mC, .int cuts, .int lin, .ref m1, .ref m2, .ref m3, .ref m4, .ref mB, .int siz, .int ctr, .ref mX, .ref mY])), (mP, .inl (cI, 64, .inl (upd (pyF pu k) k ((pyF pu k) (k + 1)))))]) rfl dMO_pay_40 (fun H locs hw => ?_)
    refine lv_iinc (v := nI (k + 1)) (lv' := [(2, .int (nI (k + 1))), (0, .ref g), (1, .int v9)]) hx hb dMO_pay_41 hl (k := 2) rfl ((nI_succ _).symm) (by decide) rfl (fun ls hl => ?_)
    refine lv_goto (tgt := 19) hx hb dMO_pay_44 (by decide) ?_
    have e0 : pyF pu (k + 1) = upd (pyF pu k) k ((pyF pu k) (k + 1)) := by simp only [pyF]
    refine ih (k + 1) ls H locs (by omega) ?_ ?_
    · rw [e0]; exact hw
    · exact lv_sub hl [1, 2, 0] rfl

set_option maxHeartbeats 4000000 in
set_option maxRecDepth 100000 in
theorem m_pay (l : Launch) (D : va_G) (cI cZ cV : ClassId) (g : Nat) (mP : Nat) (mS : Nat) (mK : Nat) (mL : Nat) (mT : Nat) (mZ : Nat) (mD : Nat) (mH : Nat) (mG : Nat) (mC : Nat) (m1 : Nat) (m2 : Nat) (m3 : Nat) (m4 : Nat) (mB : Nat) (mX : Nat) (mY : Nat) (cnt : Int32) (cuts : Int32) (lin : Int32) (siz : Int32) (ctr : Int32) (pu : Nat → Int32) (n : Nat) (hn : n < 64) : XI l yMO_pay cMO_pay 3 (some .int) D (xT3 cI cZ cV) 0 0 0 [.ref g] [(g, .inr (6, [.ref mP, .int (nI (n + 1)), .int cnt, .ref mS, .ref mK, .ref mL, .ref mT, .ref mZ, .ref mD, .ref mH, .ref mG, .ref mC, .int cuts, .int lin, .ref m1, .ref m2, .ref m3, .ref m4, .ref mB, .int siz, .int ctr, .ref mX, .ref mY])), (mP, .inl (cI, 64, .inl pu))] (fun r u => r = pu 0 ∧ u = [(g, .inr (6, [.ref mP, .int (nI n), .int cnt, .ref mS, .ref mK, .ref mL, .ref mT, .ref mZ, .ref mD, .ref mH, .ref mG, .ref mC, .int cuts, .int lin, .ref m1, .ref m2, .ref m3, .ref m4, .ref mB, .int siz, .int ctr, .ref mX, .ref mY])), (mP, .inl (cI, 64, .inl (pyF pu n)))]) := by
  intro sz
  refine x_ofW (Qc := fun A => va_Qi _ (xB D A) A) sz (by decide) (Nat.le_of_ble_eq_true rfl) ?_
  intro p e s m args below meth c A ls S hr hlk hnm hw hl
  obtain ⟨hx, hb, hml, hown, hts⟩ := id S
  have hl : lv_has ls 3 [(0, .ref g)] := hl
  refine lv_aload_n hx hb dMO_pay_0 rfl (lv_at hl 0 rfl) ?_
  refine x_get S hw (C := RMO) (T := TMO) (N := 23) inMO 0 rfl rfl 0 (by decide) xh_2_145 (v := .ref mP) rfl dMO_pay_1 ?_
  refine lv_iconst (v := 0) hx hb dMO_pay_4 (by decide) ?_
  refine x_iald S hw 1 0 rfl rfl (j := 0) (vp_in_nI (n := 0) (by decide) (by decide)) (nI_clamp (n := 0) (by decide)) dMO_pay_5 ?_
  refine lv_istore_n (lv' := [(1, .int (pu 0)), (0, .ref g)]) hx hb dMO_pay_6 rfl hl (by decide) rfl (fun ls hl => ?_)
  refine lv_aload_n hx hb dMO_pay_7 rfl (lv_at hl 1 rfl) ?_
  refine lv_dup hx hb dMO_pay_8 rfl ?_
  refine x_get S hw (C := RMO) (T := TMO) (N := 23) inMO 0 rfl rfl 1 (by decide) xh_2_146 (v := .int (nI (n + 1))) rfl dMO_pay_9 ?_
  refine lv_iconst (v := 1) hx hb dMO_pay_12 (by decide) ?_
  refine lv_isub hx hb dMO_pay_13 ?_
  refine x_topi (y := nI n) (nI_pred n) ?_
  refine x_put S hw (C := RMO) (T := TMO) (N := 23) inMO tyMO tyMO_ok nmMO 0 rfl rfl 1 (by decide) xh_2_146 rfl (v := .int (nI n)) rfl rfl (Nat.le_of_ble_eq_true rfl) (ws' := [(g, .inr (6, [.ref mP, .int (nI n), .int cnt, .ref mS, .ref mK, .ref mL, .ref mT, .ref mZ, .ref mD, .ref mH, .ref mG, .ref mC, .int cuts, .int lin, .ref m1, .ref m2, .ref m3, .ref m4, .ref mB, .int siz, .int ctr, .ref mX, .ref mY])), (mP, .inl (cI, 64, .inl pu))]) rfl dMO_pay_14 (fun H locs hw => ?_)
  refine lv_iconst (v := 0) hx hb dMO_pay_17 (by decide) ?_
  refine lv_istore_n (lv' := [(2, .int 0), (1, .int (pu 0)), (0, .ref g)]) hx hb dMO_pay_18 rfl hl (by decide) rfl (fun ls hl => ?_)
  refine ml_pay rfl ⟨rfl, rfl⟩ S g mP mS mK mL mT mZ mD mH mG mC m1 m2 m3 m4 mB mX mY cnt cuts lin siz ctr pu (pu 0) n hn (fun ls H locs hw hl => ?_) n 0 ls _ _ (Nat.zero_add _) hw (lv_sub hl [2, 1, 0] rfl)
  refine lv_iload_n hx hb dMO_pay_47 rfl (lv_at hl 1 rfl) ?_
  exact x_iret S hr hlk hw (by decide) (by decide) (⟨rfl, rfl⟩) dMO_pay_48

set_option maxHeartbeats 4000000 in
set_option maxRecDepth 100000 in
theorem m_none_y (l : Launch) (D : va_G) (cI cZ cV : ClassId) (g : Nat) (mP : Nat) (mS : Nat) (mK : Nat) (mL : Nat) (mT : Nat) (mZ : Nat) (mD : Nat) (mH : Nat) (mG : Nat) (mC : Nat) (m1 : Nat) (m2 : Nat) (m3 : Nat) (m4 : Nat) (mB : Nat) (mX : Nat) (mY : Nat) (cash : Int32) (cnt : Int32) (cuts : Int32) (lin : Int32) (siz : Int32) (ctr : Int32) (v : Int32) (hv : v < 0 ∨ cnt ≤ v) : XI l yMO_none cMO_none 2 (some .boolean) D (xT3 cI cZ cV) 0 0 0 [.ref g, .int v] [(g, .inr (6, [.ref mP, .int cash, .int cnt, .ref mS, .ref mK, .ref mL, .ref mT, .ref mZ, .ref mD, .ref mH, .ref mG, .ref mC, .int cuts, .int lin, .ref m1, .ref m2, .ref m3, .ref m4, .ref mB, .int siz, .int ctr, .ref mX, .ref mY]))] (fun r u => r = 1 ∧ u = [(g, .inr (6, [.ref mP, .int cash, .int cnt, .ref mS, .ref mK, .ref mL, .ref mT, .ref mZ, .ref mD, .ref mH, .ref mG, .ref mC, .int cuts, .int lin, .ref m1, .ref m2, .ref m3, .ref m4, .ref mB, .int siz, .int ctr, .ref mX, .ref mY]))]) := by
  intro sz
  refine x_ofW (Qc := fun A => va_Qi _ (xB D A) A) sz (by decide) (Nat.le_of_ble_eq_true rfl) ?_
  intro p e s m args below meth c A ls S hr hlk hnm hw hl
  obtain ⟨hx, hb, hml, hown, hts⟩ := id S
  have hl : lv_has ls 2 [(0, .ref g), (1, .int v)] := hl
  refine lv_iload_n hx hb dMO_none_0 rfl (lv_at hl 1 rfl) ?_
  refine lv_if_lt (tgt := 12) hx hb dMO_none_1 (by decide) (fun h1 => ?_) (fun h1 => ?_)
  · skip
    refine lv_iconst (v := 1) hx hb dMO_none_12 (by decide) ?_
    refine lv_goto (tgt := 17) hx hb dMO_none_13 (by decide) ?_
    exact x_zret S hr hlk hw (by decide) (by decide) rfl (⟨rfl, rfl⟩) dMO_none_17
  refine lv_iload_n hx hb dMO_none_4 rfl (lv_at hl 1 rfl) ?_
  refine lv_aload_n hx hb dMO_none_5 rfl (lv_at hl 0 rfl) ?_
  refine x_get S hw (C := RMO) (T := TMO) (N := 23) inMO 0 rfl rfl 2 (by decide) xh_2_147 (v := .int cnt) rfl dMO_none_6 ?_
  refine lv_icmp_lt (tgt := 16) hx hb dMO_none_9 (by decide) (fun h9 => ?_) (fun h9 => ?_)
  · skip
    exact False.elim (by rcases hv with h | h; exact h1 h; exact Int32.not_lt.mpr h h9)
  refine lv_iconst (v := 1) hx hb dMO_none_12 (by decide) ?_
  refine lv_goto (tgt := 17) hx hb dMO_none_13 (by decide) ?_
  exact x_zret S hr hlk hw (by decide) (by decide) rfl (⟨rfl, rfl⟩) dMO_none_17

set_option maxHeartbeats 4000000 in
set_option maxRecDepth 100000 in
theorem m_none_n (l : Launch) (D : va_G) (cI cZ cV : ClassId) (g : Nat) (mP : Nat) (mS : Nat) (mK : Nat) (mL : Nat) (mT : Nat) (mZ : Nat) (mD : Nat) (mH : Nat) (mG : Nat) (mC : Nat) (m1 : Nat) (m2 : Nat) (m3 : Nat) (m4 : Nat) (mB : Nat) (mX : Nat) (mY : Nat) (cash : Int32) (cuts : Int32) (lin : Int32) (siz : Int32) (ctr : Int32) (n1 : Nat) (k0 : Nat) (hk : k0 < n1 ∧ n1 ≤ 8) : XI l yMO_none cMO_none 2 (some .boolean) D (xT3 cI cZ cV) 0 0 0 [.ref g, .int (nI k0)] [(g, .inr (6, [.ref mP, .int cash, .int (nI n1), .ref mS, .ref mK, .ref mL, .ref mT, .ref mZ, .ref mD, .ref mH, .ref mG, .ref mC, .int cuts, .int lin, .ref m1, .ref m2, .ref m3, .ref m4, .ref mB, .int siz, .int ctr, .ref mX, .ref mY]))] (fun r u => r = 0 ∧ u = [(g, .inr (6, [.ref mP, .int cash, .int (nI n1), .ref mS, .ref mK, .ref mL, .ref mT, .ref mZ, .ref mD, .ref mH, .ref mG, .ref mC, .int cuts, .int lin, .ref m1, .ref m2, .ref m3, .ref m4, .ref mB, .int siz, .int ctr, .ref mX, .ref mY]))]) := by
  intro sz
  refine x_ofW (Qc := fun A => va_Qi _ (xB D A) A) sz (by decide) (Nat.le_of_ble_eq_true rfl) ?_
  intro p e s m args below meth c A ls S hr hlk hnm hw hl
  obtain ⟨hx, hb, hml, hown, hts⟩ := id S
  have hl : lv_has ls 2 [(0, .ref g), (1, .int (nI k0))] := hl
  refine lv_iload_n hx hb dMO_none_0 rfl (lv_at hl 1 rfl) ?_
  refine lv_if_lt (tgt := 12) hx hb dMO_none_1 (by decide) (fun h1 => absurd h1 (nI_pos (by omega))) (fun h1 => ?_)
  refine lv_iload_n hx hb dMO_none_4 rfl (lv_at hl 1 rfl) ?_
  refine lv_aload_n hx hb dMO_none_5 rfl (lv_at hl 0 rfl) ?_
  refine x_get S hw (C := RMO) (T := TMO) (N := 23) inMO 0 rfl rfl 2 (by decide) xh_2_147 (v := .int (nI n1)) rfl dMO_none_6 ?_
  refine lv_icmp_lt (tgt := 16) hx hb dMO_none_9 (by decide) (fun h9 => ?_) (fun h9 => absurd (nI_lt (by omega) (by omega)) h9)
  refine lv_iconst (v := 0) hx hb dMO_none_16 (by decide) ?_
  exact x_zret S hr hlk hw (by decide) (by decide) rfl (⟨rfl, rfl⟩) dMO_none_17

set_option maxHeartbeats 4000000 in
set_option maxRecDepth 100000 in
theorem ml_actN {p : Program} {l : Launch} {e : Env} {s : State} {m : MethodId} {args : Array Value} {below : List Frame} {meth : Method} {c : Code} {Q : State → Prop} {D : va_G} {A : Nat → Prop} {cI cZ cV : ClassId} {H0 : Heap} {R : Room} {cells slots : Nat} (hR : R = (xR 0 0 0)) (hC : cells = 0 ∧ slots = 0) (S : CallFix p m c cMO_active 2 s args xAll "EscrowedVersionsModel") (g : Nat) (mP : Nat) (mS : Nat) (mK : Nat) (mL : Nat) (mT : Nat) (mZ : Nat) (mD : Nat) (mH : Nat) (mG : Nat) (mC : Nat) (m1 : Nat) (m2 : Nat) (m3 : Nat) (m4 : Nat) (mB : Nat) (mX : Nat) (mY : Nat) (cash : Int32) (cuts : Int32) (lin : Int32) (siz : Int32) (ctr : Int32) (st : Nat → Int32) (n1 : Nat) (hn : n1 ≤ 8) (hall : ∀ v, v < n1 → ¬ st v = 1)
    (kk : ∀ (ls : Array Slot) (H : Heap) (locs : List Loc), xW D (xT3 cI cZ cV) A H0 H locs [(g, .inr (6, [.ref mP, .int cash, .int (nI n1), .ref mS, .ref mK, .ref mL, .ref mT, .ref mZ, .ref mD, .ref mH, .ref mG, .ref mC, .int cuts, .int lin, .ref m1, .ref m2, .ref m3, .ref m4, .ref mB, .int siz, .int ctr, .ref mX, .ref mY])), (mS, .inl (cI, 8, .inl st))] s → lv_has ls 2 [(0, .ref g), (1, .int (nI n1))] → W p l e R s m args below meth c H locs cells slots Q (F0 m 28 ls [])) :
    ∀ (n k : Nat) (ls : Array Slot) (H : Heap) (locs : List Loc), k + n = n1 → xW D (xT3 cI cZ cV) A H0 H locs [(g, .inr (6, [.ref mP, .int cash, .int (nI n1), .ref mS, .ref mK, .ref mL, .ref mT, .ref mZ, .ref mD, .ref mH, .ref mG, .ref mC, .int cuts, .int lin, .ref m1, .ref m2, .ref m3, .ref m4, .ref mB, .int siz, .int ctr, .ref mX, .ref mY])), (mS, .inl (cI, 8, .inl st))] s → lv_has ls 2 [(0, .ref g), (1, .int (nI k))] → W p l e R s m args below meth c H locs cells slots Q (F0 m 2 ls []) := by
  obtain ⟨hx, hb, hml, hown, hts⟩ := id S
  subst hR
  obtain ⟨rfl, rfl⟩ := hC
  intro n
  induction n with
  | zero =>
    intro k ls H locs hk hw hl
    obtain rfl : n1 = k := by omega
    refine lv_iload_n hx hb dMO_active_2 rfl (lv_at hl 1 rfl) ?_
    refine lv_aload_n hx hb dMO_active_3 rfl (lv_at hl 0 rfl) ?_
    refine x_get S hw (C := RMO) (T := TMO) (N := 23) inMO 0 rfl rfl 2 (by decide) xh_2_147 (v := .int (nI n1)) rfl dMO_active_4 ?_
    refine lv_icmp_ge (tgt := 28) hx hb dMO_active_7 (by decide) (fun h7 => ?_) (fun h7 => absurd (nI_le (Nat.le_refl _) (by omega)) h7)
    exact kk ls H locs hw (lv_sub hl [0, 1] rfl)
  | succ n ih =>
    intro k ls H locs hk hw hl
    have hkN : k < n1 := by omega
    refine lv_iload_n hx hb dMO_active_2 rfl (lv_at hl 1 rfl) ?_
    refine lv_aload_n hx hb dMO_active_3 rfl (lv_at hl 0 rfl) ?_
    refine x_get S hw (C := RMO) (T := TMO) (N := 23) inMO 0 rfl rfl 2 (by decide) xh_2_147 (v := .int (nI n1)) rfl dMO_active_4 ?_
    refine lv_icmp_ge (tgt := 28) hx hb dMO_active_7 (by decide) (fun h7 => absurd h7 (nI_ge hkN (by omega))) (fun h7 => ?_)
    refine lv_aload_n hx hb dMO_active_10 rfl (lv_at hl 0 rfl) ?_
    refine x_get S hw (C := RMO) (T := TMO) (N := 23) inMO 0 rfl rfl 3 (by decide) xh_2_148 (v := .ref mS) rfl dMO_active_11 ?_
    refine lv_iload_n hx hb dMO_active_14 rfl (lv_at hl 1 rfl) ?_
    refine x_iald S hw 1 0 rfl rfl (j := k) (vp_in_nI (by omega) (by omega)) (nI_clamp (by omega)) dMO_active_15 ?_
    refine lv_iconst (v := 1) hx hb dMO_active_16 (by decide) ?_
    refine lv_icmp_ne (tgt := 22) hx hb dMO_active_17 (by decide) (fun h17 => ?_) (fun h17 => absurd h17 (hall k hkN))
    refine lv_iinc (v := nI (k + 1)) (lv' := [(1, .int (nI (k + 1))), (0, .ref g)]) hx hb dMO_active_22 hl (k := 1) rfl ((nI_succ _).symm) (by decide) rfl (fun ls hl => ?_)
    refine lv_goto (tgt := 2) hx hb dMO_active_25 (by decide) ?_
    refine ih (k + 1) ls H locs (by omega) ?_ ?_
    · exact hw
    · exact lv_sub hl [1, 0] rfl

set_option maxHeartbeats 4000000 in
set_option maxRecDepth 100000 in
theorem m_act_none (l : Launch) (D : va_G) (cI cZ cV : ClassId) (g : Nat) (mP : Nat) (mS : Nat) (mK : Nat) (mL : Nat) (mT : Nat) (mZ : Nat) (mD : Nat) (mH : Nat) (mG : Nat) (mC : Nat) (m1 : Nat) (m2 : Nat) (m3 : Nat) (m4 : Nat) (mB : Nat) (mX : Nat) (mY : Nat) (cash : Int32) (cuts : Int32) (lin : Int32) (siz : Int32) (ctr : Int32) (st : Nat → Int32) (n1 : Nat) (hn : n1 ≤ 8) (hall : ∀ v, v < n1 → ¬ st v = 1) : XI l yMO_active cMO_active 2 (some .int) D (xT3 cI cZ cV) 0 0 0 [.ref g] [(g, .inr (6, [.ref mP, .int cash, .int (nI n1), .ref mS, .ref mK, .ref mL, .ref mT, .ref mZ, .ref mD, .ref mH, .ref mG, .ref mC, .int cuts, .int lin, .ref m1, .ref m2, .ref m3, .ref m4, .ref mB, .int siz, .int ctr, .ref mX, .ref mY])), (mS, .inl (cI, 8, .inl st))] (fun r u => r = -1 ∧ u = [(g, .inr (6, [.ref mP, .int cash, .int (nI n1), .ref mS, .ref mK, .ref mL, .ref mT, .ref mZ, .ref mD, .ref mH, .ref mG, .ref mC, .int cuts, .int lin, .ref m1, .ref m2, .ref m3, .ref m4, .ref mB, .int siz, .int ctr, .ref mX, .ref mY])), (mS, .inl (cI, 8, .inl st))]) := by
  intro sz
  refine x_ofW (Qc := fun A => va_Qi _ (xB D A) A) sz (by decide) (Nat.le_of_ble_eq_true rfl) ?_
  intro p e s m args below meth c A ls S hr hlk hnm hw hl
  obtain ⟨hx, hb, hml, hown, hts⟩ := id S
  have hl : lv_has ls 2 [(0, .ref g)] := hl
  refine lv_iconst (v := 0) hx hb dMO_active_0 (by decide) ?_
  refine lv_istore_n (lv' := [(1, .int 0), (0, .ref g)]) hx hb dMO_active_1 rfl hl (by decide) rfl (fun ls hl => ?_)
  refine ml_actN rfl ⟨rfl, rfl⟩ S g mP mS mK mL mT mZ mD mH mG mC m1 m2 m3 m4 mB mX mY cash cuts lin siz ctr st n1 hn hall (fun ls H locs hw hl => ?_) n1 0 ls _ _ (Nat.zero_add _) hw (lv_sub hl [1, 0] rfl)
  refine lv_iconst (v := (-1)) hx hb dMO_active_28 (by decide) ?_
  exact x_iret S hr hlk hw (by decide) (by decide) (⟨rfl, rfl⟩) dMO_active_29

set_option maxHeartbeats 4000000 in
set_option maxRecDepth 100000 in
theorem ml_actS {p : Program} {l : Launch} {e : Env} {s : State} {m : MethodId} {args : Array Value} {below : List Frame} {meth : Method} {c : Code} {Q : State → Prop} {D : va_G} {A : Nat → Prop} {cI cZ cV : ClassId} {H0 : Heap} {R : Room} {cells slots : Nat} (hR : R = (xR 0 0 0)) (hC : cells = 0 ∧ slots = 0) (S : CallFix p m c cMO_active 2 s args xAll "EscrowedVersionsModel") (g : Nat) (mP : Nat) (mS : Nat) (mK : Nat) (mL : Nat) (mT : Nat) (mZ : Nat) (mD : Nat) (mH : Nat) (mG : Nat) (mC : Nat) (m1 : Nat) (m2 : Nat) (m3 : Nat) (m4 : Nat) (mB : Nat) (mX : Nat) (mY : Nat) (cash : Int32) (cuts : Int32) (lin : Int32) (siz : Int32) (ctr : Int32) (st : Nat → Int32) (n1 : Nat) (a0 : Nat) (hn : a0 < n1 ∧ n1 ≤ 8) (hs : st a0 = 1) (hall : ∀ v, v < a0 → ¬ st v = 1)
    (kk : ∀ (ls : Array Slot) (H : Heap) (locs : List Loc), xW D (xT3 cI cZ cV) A H0 H locs [(g, .inr (6, [.ref mP, .int cash, .int (nI n1), .ref mS, .ref mK, .ref mL, .ref mT, .ref mZ, .ref mD, .ref mH, .ref mG, .ref mC, .int cuts, .int lin, .ref m1, .ref m2, .ref m3, .ref m4, .ref mB, .int siz, .int ctr, .ref mX, .ref mY])), (mS, .inl (cI, 8, .inl st))] s → lv_has ls 2 [(0, .ref g), (1, .int (nI a0))] → W p l e R s m args below meth c H locs cells slots Q (F0 m 20 ls [])) :
    ∀ (n k : Nat) (ls : Array Slot) (H : Heap) (locs : List Loc), k + n = a0 → xW D (xT3 cI cZ cV) A H0 H locs [(g, .inr (6, [.ref mP, .int cash, .int (nI n1), .ref mS, .ref mK, .ref mL, .ref mT, .ref mZ, .ref mD, .ref mH, .ref mG, .ref mC, .int cuts, .int lin, .ref m1, .ref m2, .ref m3, .ref m4, .ref mB, .int siz, .int ctr, .ref mX, .ref mY])), (mS, .inl (cI, 8, .inl st))] s → lv_has ls 2 [(0, .ref g), (1, .int (nI k))] → W p l e R s m args below meth c H locs cells slots Q (F0 m 2 ls []) := by
  obtain ⟨hx, hb, hml, hown, hts⟩ := id S
  subst hR
  obtain ⟨rfl, rfl⟩ := hC
  intro n
  induction n with
  | zero =>
    intro k ls H locs hk hw hl
    obtain rfl : a0 = k := by omega
    refine lv_iload_n hx hb dMO_active_2 rfl (lv_at hl 1 rfl) ?_
    refine lv_aload_n hx hb dMO_active_3 rfl (lv_at hl 0 rfl) ?_
    refine x_get S hw (C := RMO) (T := TMO) (N := 23) inMO 0 rfl rfl 2 (by decide) xh_2_147 (v := .int (nI n1)) rfl dMO_active_4 ?_
    refine lv_icmp_ge (tgt := 28) hx hb dMO_active_7 (by decide) (fun h7 => absurd h7 (nI_ge (by omega) (by omega))) (fun h7 => ?_)
    refine lv_aload_n hx hb dMO_active_10 rfl (lv_at hl 0 rfl) ?_
    refine x_get S hw (C := RMO) (T := TMO) (N := 23) inMO 0 rfl rfl 3 (by decide) xh_2_148 (v := .ref mS) rfl dMO_active_11 ?_
    refine lv_iload_n hx hb dMO_active_14 rfl (lv_at hl 1 rfl) ?_
    refine x_iald S hw 1 0 rfl rfl (j := a0) (vp_in_nI (by omega) (by omega)) (nI_clamp (by omega)) dMO_active_15 ?_
    refine lv_iconst (v := 1) hx hb dMO_active_16 (by decide) ?_
    refine lv_icmp_ne (tgt := 22) hx hb dMO_active_17 (by decide) (fun h17 => absurd hs h17) (fun h17 => ?_)
    exact kk ls H locs hw (lv_sub hl [0, 1] rfl)
  | succ n ih =>
    intro k ls H locs hk hw hl
    have hkN : k < a0 := by omega
    refine lv_iload_n hx hb dMO_active_2 rfl (lv_at hl 1 rfl) ?_
    refine lv_aload_n hx hb dMO_active_3 rfl (lv_at hl 0 rfl) ?_
    refine x_get S hw (C := RMO) (T := TMO) (N := 23) inMO 0 rfl rfl 2 (by decide) xh_2_147 (v := .int (nI n1)) rfl dMO_active_4 ?_
    refine lv_icmp_ge (tgt := 28) hx hb dMO_active_7 (by decide) (fun h7 => absurd h7 (nI_ge (by omega) (by omega))) (fun h7 => ?_)
    refine lv_aload_n hx hb dMO_active_10 rfl (lv_at hl 0 rfl) ?_
    refine x_get S hw (C := RMO) (T := TMO) (N := 23) inMO 0 rfl rfl 3 (by decide) xh_2_148 (v := .ref mS) rfl dMO_active_11 ?_
    refine lv_iload_n hx hb dMO_active_14 rfl (lv_at hl 1 rfl) ?_
    refine x_iald S hw 1 0 rfl rfl (j := k) (vp_in_nI (by omega) (by omega)) (nI_clamp (by omega)) dMO_active_15 ?_
    refine lv_iconst (v := 1) hx hb dMO_active_16 (by decide) ?_
    refine lv_icmp_ne (tgt := 22) hx hb dMO_active_17 (by decide) (fun h17 => ?_) (fun h17 => absurd h17 (hall k hkN))
    refine lv_iinc (v := nI (k + 1)) (lv' := [(1, .int (nI (k + 1))), (0, .ref g)]) hx hb dMO_active_22 hl (k := 1) rfl ((nI_succ _).symm) (by decide) rfl (fun ls hl => ?_)
    refine lv_goto (tgt := 2) hx hb dMO_active_25 (by decide) ?_
    refine ih (k + 1) ls H locs (by omega) ?_ ?_
    · exact hw
    · exact lv_sub hl [1, 0] rfl

set_option maxHeartbeats 4000000 in
set_option maxRecDepth 100000 in
theorem m_act_some (l : Launch) (D : va_G) (cI cZ cV : ClassId) (g : Nat) (mP : Nat) (mS : Nat) (mK : Nat) (mL : Nat) (mT : Nat) (mZ : Nat) (mD : Nat) (mH : Nat) (mG : Nat) (mC : Nat) (m1 : Nat) (m2 : Nat) (m3 : Nat) (m4 : Nat) (mB : Nat) (mX : Nat) (mY : Nat) (cash : Int32) (cuts : Int32) (lin : Int32) (siz : Int32) (ctr : Int32) (st : Nat → Int32) (n1 : Nat) (a0 : Nat) (hn : a0 < n1 ∧ n1 ≤ 8) (hs : st a0 = 1) (hall : ∀ v, v < a0 → ¬ st v = 1) : XI l yMO_active cMO_active 2 (some .int) D (xT3 cI cZ cV) 0 0 0 [.ref g] [(g, .inr (6, [.ref mP, .int cash, .int (nI n1), .ref mS, .ref mK, .ref mL, .ref mT, .ref mZ, .ref mD, .ref mH, .ref mG, .ref mC, .int cuts, .int lin, .ref m1, .ref m2, .ref m3, .ref m4, .ref mB, .int siz, .int ctr, .ref mX, .ref mY])), (mS, .inl (cI, 8, .inl st))] (fun r u => r = nI a0 ∧ u = [(g, .inr (6, [.ref mP, .int cash, .int (nI n1), .ref mS, .ref mK, .ref mL, .ref mT, .ref mZ, .ref mD, .ref mH, .ref mG, .ref mC, .int cuts, .int lin, .ref m1, .ref m2, .ref m3, .ref m4, .ref mB, .int siz, .int ctr, .ref mX, .ref mY])), (mS, .inl (cI, 8, .inl st))]) := by
  intro sz
  refine x_ofW (Qc := fun A => va_Qi _ (xB D A) A) sz (by decide) (Nat.le_of_ble_eq_true rfl) ?_
  intro p e s m args below meth c A ls S hr hlk hnm hw hl
  obtain ⟨hx, hb, hml, hown, hts⟩ := id S
  have hl : lv_has ls 2 [(0, .ref g)] := hl
  refine lv_iconst (v := 0) hx hb dMO_active_0 (by decide) ?_
  refine lv_istore_n (lv' := [(1, .int 0), (0, .ref g)]) hx hb dMO_active_1 rfl hl (by decide) rfl (fun ls hl => ?_)
  refine ml_actS rfl ⟨rfl, rfl⟩ S g mP mS mK mL mT mZ mD mH mG mC m1 m2 m3 m4 mB mX mY cash cuts lin siz ctr st n1 a0 hn hs hall (fun ls H locs hw hl => ?_) a0 0 ls _ _ (Nat.zero_add _) hw (lv_sub hl [1, 0] rfl)
  refine lv_iload_n hx hb dMO_active_20 rfl (lv_at hl 1 rfl) ?_
  exact x_iret S hr hlk hw (by decide) (by decide) (⟨rfl, rfl⟩) dMO_active_21

set_option maxHeartbeats 4000000 in
set_option maxRecDepth 100000 in
theorem m_write0 (l : Launch) (D : va_G) (cI cZ cV : ClassId) (g : Nat) (mP : Nat) (mS : Nat) (mK : Nat) (mL : Nat) (mT : Nat) (mZ : Nat) (mD : Nat) (mH : Nat) (mG : Nat) (mC : Nat) (m1 : Nat) (m2 : Nat) (m3 : Nat) (m4 : Nat) (mB : Nat) (mX : Nat) (mY : Nat) (cash : Int32) (cnt : Int32) (cuts : Int32) (siz : Int32) (ctr : Int32) (ks : Nat → Int32) (ns : Nat → Int32) (ds : Nat → Int32) (ss : Nat → Int32) (kd : Int32) (nm : Int32) (dt : Int32) : XV l yMO_write cMO_write 5 none D (xT3 cI cZ cV) 1 0 0 [.ref g, .int kd, .int nm, .int dt] [(g, .inr (6, [.ref mP, .int cash, .int cnt, .ref mS, .ref mK, .ref mL, .ref mT, .ref mZ, .ref mD, .ref mH, .ref mG, .ref mC, .int cuts, .int (nI 0), .ref m1, .ref m2, .ref m3, .ref m4, .ref mB, .int siz, .int ctr, .ref mX, .ref mY])), (m1, .inl (cI, 80, .inl ks)), (m2, .inl (cI, 80, .inl ns)), (m3, .inl (cI, 80, .inl ds)), (m4, .inl (cI, 80, .inl ss))] (fun u => u = [(g, .inr (6, [.ref mP, .int cash, .int cnt, .ref mS, .ref mK, .ref mL, .ref mT, .ref mZ, .ref mD, .ref mH, .ref mG, .ref mC, .int cuts, .int (nI (0 + 1)), .ref m1, .ref m2, .ref m3, .ref m4, .ref mB, .int siz, .int ctr, .ref mX, .ref mY])), (m1, .inl (cI, 80, .inl (upd ks 0 kd))), (m2, .inl (cI, 80, .inl (upd ns 0 nm))), (m3, .inl (cI, 80, .inl (upd ds 0 dt))), (m4, .inl (cI, 80, .inl (upd ss 0 (fMix (fMix (fMix 7 kd) nm) dt))))]) := by
  intro sz
  refine x_ofW (Qc := fun A => va_Qv _ (xB D A) A) sz (by decide) (Nat.le_of_ble_eq_true rfl) ?_
  intro p e s m args below meth c A ls S hr hlk hnm hw hl
  obtain ⟨hx, hb, hml, hown, hts⟩ := id S
  have hl : lv_has ls 5 [(0, .ref g), (1, .int kd), (2, .int nm), (3, .int dt)] := hl
  refine lv_aload_n hx hb dMO_write_0 rfl (lv_at hl 0 rfl) ?_
  refine x_get S hw (C := RMO) (T := TMO) (N := 23) inMO 0 rfl rfl 13 (by decide) xh_2_158 (v := .int (nI 0)) rfl dMO_write_1 ?_
  refine lv_if_ne (tgt := 12) hx hb dMO_write_4 (by decide) (fun h4 => absurd nI_0 h4) (fun h4 => ?_)
  refine lv_bipush (v := 7) hx hb dMO_write_7 (by decide) ?_
  refine lv_goto (tgt := 23) hx hb dMO_write_9 (by decide) ?_
  refine lv_istore (lv' := [(4, .int 7), (0, .ref g), (1, .int kd), (2, .int nm), (3, .int dt)]) hx hb dMO_write_23 hl (by decide) rfl (fun ls hl => ?_)
  refine lv_aload_n hx hb dMO_write_25 rfl (lv_at hl 1 rfl) ?_
  refine x_get S hw (C := RMO) (T := TMO) (N := 23) inMO 0 rfl rfl 14 (by decide) xh_2_159 (v := .ref m1) rfl dMO_write_26 ?_
  refine lv_aload_n hx hb dMO_write_29 rfl (lv_at hl 1 rfl) ?_
  refine x_get S hw (C := RMO) (T := TMO) (N := 23) inMO 0 rfl rfl 13 (by decide) xh_2_158 (v := .int (nI 0)) rfl dMO_write_30 ?_
  refine lv_iload_n hx hb dMO_write_33 rfl (lv_at hl 2 rfl) ?_
  refine x_iast S hw 1 0 rfl rfl (j := 0) (vp_in_nI (by omega) (by omega)) (nI_clamp (by omega)) (ws' := [(g, .inr (6, [.ref mP, .int cash, .int cnt, .ref mS, .ref mK, .ref mL, .ref mT, .ref mZ, .ref mD, .ref mH, .ref mG, .ref mC, .int cuts, .int (nI 0), .ref m1, .ref m2, .ref m3, .ref m4, .ref mB, .int siz, .int ctr, .ref mX, .ref mY])), (m1, .inl (cI, 80, .inl (upd ks 0 kd))), (m2, .inl (cI, 80, .inl ns)), (m3, .inl (cI, 80, .inl ds)), (m4, .inl (cI, 80, .inl ss))]) rfl dMO_write_34 (fun H locs hw => ?_)
  refine lv_aload_n hx hb dMO_write_35 rfl (lv_at hl 1 rfl) ?_
  refine x_get S hw (C := RMO) (T := TMO) (N := 23) inMO 0 rfl rfl 15 (by decide) xh_2_160 (v := .ref m2) rfl dMO_write_36 ?_
  refine lv_aload_n hx hb dMO_write_39 rfl (lv_at hl 1 rfl) ?_
  refine x_get S hw (C := RMO) (T := TMO) (N := 23) inMO 0 rfl rfl 13 (by decide) xh_2_158 (v := .int (nI 0)) rfl dMO_write_40 ?_
  refine lv_iload_n hx hb dMO_write_43 rfl (lv_at hl 3 rfl) ?_
  refine x_iast S hw 2 0 rfl rfl (j := 0) (vp_in_nI (by omega) (by omega)) (nI_clamp (by omega)) (ws' := [(g, .inr (6, [.ref mP, .int cash, .int cnt, .ref mS, .ref mK, .ref mL, .ref mT, .ref mZ, .ref mD, .ref mH, .ref mG, .ref mC, .int cuts, .int (nI 0), .ref m1, .ref m2, .ref m3, .ref m4, .ref mB, .int siz, .int ctr, .ref mX, .ref mY])), (m1, .inl (cI, 80, .inl (upd ks 0 kd))), (m2, .inl (cI, 80, .inl (upd ns 0 nm))), (m3, .inl (cI, 80, .inl ds)), (m4, .inl (cI, 80, .inl ss))]) rfl dMO_write_44 (fun H locs hw => ?_)
  refine lv_aload_n hx hb dMO_write_45 rfl (lv_at hl 1 rfl) ?_
  refine x_get S hw (C := RMO) (T := TMO) (N := 23) inMO 0 rfl rfl 16 (by decide) xh_2_161 (v := .ref m3) rfl dMO_write_46 ?_
  refine lv_aload_n hx hb dMO_write_49 rfl (lv_at hl 1 rfl) ?_
  refine x_get S hw (C := RMO) (T := TMO) (N := 23) inMO 0 rfl rfl 13 (by decide) xh_2_158 (v := .int (nI 0)) rfl dMO_write_50 ?_
  refine lv_iload_n hx hb dMO_write_53 rfl (lv_at hl 4 rfl) ?_
  refine x_iast S hw 3 0 rfl rfl (j := 0) (vp_in_nI (by omega) (by omega)) (nI_clamp (by omega)) (ws' := [(g, .inr (6, [.ref mP, .int cash, .int cnt, .ref mS, .ref mK, .ref mL, .ref mT, .ref mZ, .ref mD, .ref mH, .ref mG, .ref mC, .int cuts, .int (nI 0), .ref m1, .ref m2, .ref m3, .ref m4, .ref mB, .int siz, .int ctr, .ref mX, .ref mY])), (m1, .inl (cI, 80, .inl (upd ks 0 kd))), (m2, .inl (cI, 80, .inl (upd ns 0 nm))), (m3, .inl (cI, 80, .inl (upd ds 0 dt))), (m4, .inl (cI, 80, .inl ss))]) rfl dMO_write_54 (fun H locs hw => ?_)
  refine lv_aload_n hx hb dMO_write_55 rfl (lv_at hl 1 rfl) ?_
  refine x_get S hw (C := RMO) (T := TMO) (N := 23) inMO 0 rfl rfl 17 (by decide) xh_2_162 (v := .ref m4) rfl dMO_write_56 ?_
  refine lv_aload_n hx hb dMO_write_59 rfl (lv_at hl 1 rfl) ?_
  refine x_get S hw (C := RMO) (T := TMO) (N := 23) inMO 0 rfl rfl 13 (by decide) xh_2_158 (v := .int (nI 0)) rfl dMO_write_60 ?_
  refine lv_iload hx hb dMO_write_63 (lv_at hl 0 rfl) ?_
  refine lv_iload_n hx hb dMO_write_65 rfl (lv_at hl 2 rfl) ?_
  refine x_calliD (ws' := [(g, .inr (6, [.ref mP, .int cash, .int cnt, .ref mS, .ref mK, .ref mL, .ref mT, .ref mZ, .ref mD, .ref mH, .ref mG, .ref mC, .int cuts, .int (nI 0), .ref m1, .ref m2, .ref m3, .ref m4, .ref mB, .int siz, .int ctr, .ref mX, .ref mY])), (m1, .inl (cI, 80, .inl (upd ks 0 kd))), (m2, .inl (cI, 80, .inl (upd ns 0 nm))), (m3, .inl (cI, 80, .inl (upd ds 0 dt))), (m4, .inl (cI, 80, .inl ss))]) hw [] rfl rfl (x_runS (n := 2) (rest := [.int (nI 0), .ref m4]) (As := [.int 7, .int kd]) S hw (m_mix l D cI cZ cV 7 kd _) xh_3_9 xh_3_7 xh_3_8 xh_1_6 (by decide +kernel) ⟨by decide, by decide⟩ [] rfl rfl rfl hl.1 rfl (Nat.le_of_ble_eq_true rfl) dMO_write_66 ⟨by decide, by decide⟩) rfl rfl (fun H locs hw => ?_)
  refine lv_iload_n hx hb dMO_write_69 rfl (lv_at hl 3 rfl) ?_
  refine x_calliD (ws' := [(g, .inr (6, [.ref mP, .int cash, .int cnt, .ref mS, .ref mK, .ref mL, .ref mT, .ref mZ, .ref mD, .ref mH, .ref mG, .ref mC, .int cuts, .int (nI 0), .ref m1, .ref m2, .ref m3, .ref m4, .ref mB, .int siz, .int ctr, .ref mX, .ref mY])), (m1, .inl (cI, 80, .inl (upd ks 0 kd))), (m2, .inl (cI, 80, .inl (upd ns 0 nm))), (m3, .inl (cI, 80, .inl (upd ds 0 dt))), (m4, .inl (cI, 80, .inl ss))]) hw [] rfl rfl (x_runS (n := 2) (rest := [.int (nI 0), .ref m4]) (As := [.int (fMix 7 kd), .int nm]) S hw (m_mix l D cI cZ cV (fMix 7 kd) nm _) xh_3_9 xh_3_7 xh_3_8 xh_1_6 (by decide +kernel) ⟨by decide, by decide⟩ [] rfl rfl rfl hl.1 rfl (Nat.le_of_ble_eq_true rfl) dMO_write_70 ⟨by decide, by decide⟩) rfl rfl (fun H locs hw => ?_)
  refine lv_iload_n hx hb dMO_write_73 rfl (lv_at hl 4 rfl) ?_
  refine x_calliD (ws' := [(g, .inr (6, [.ref mP, .int cash, .int cnt, .ref mS, .ref mK, .ref mL, .ref mT, .ref mZ, .ref mD, .ref mH, .ref mG, .ref mC, .int cuts, .int (nI 0), .ref m1, .ref m2, .ref m3, .ref m4, .ref mB, .int siz, .int ctr, .ref mX, .ref mY])), (m1, .inl (cI, 80, .inl (upd ks 0 kd))), (m2, .inl (cI, 80, .inl (upd ns 0 nm))), (m3, .inl (cI, 80, .inl (upd ds 0 dt))), (m4, .inl (cI, 80, .inl ss))]) hw [] rfl rfl (x_runS (n := 2) (rest := [.int (nI 0), .ref m4]) (As := [.int (fMix (fMix 7 kd) nm), .int dt]) S hw (m_mix l D cI cZ cV (fMix (fMix 7 kd) nm) dt _) xh_3_9 xh_3_7 xh_3_8 xh_1_6 (by decide +kernel) ⟨by decide, by decide⟩ [] rfl rfl rfl hl.1 rfl (Nat.le_of_ble_eq_true rfl) dMO_write_74 ⟨by decide, by decide⟩) rfl rfl (fun H locs hw => ?_)
  refine x_iast S hw 4 0 rfl rfl (j := 0) (vp_in_nI (by omega) (by omega)) (nI_clamp (by omega)) (ws' := [(g, .inr (6, [.ref mP, .int cash, .int cnt, .ref mS, .ref mK, .ref mL, .ref mT, .ref mZ, .ref mD, .ref mH, .ref mG, .ref mC, .int cuts, .int (nI 0), .ref m1, .ref m2, .ref m3, .ref m4, .ref mB, .int siz, .int ctr, .ref mX, .ref mY])), (m1, .inl (cI, 80, .inl (upd ks 0 kd))), (m2, .inl (cI, 80, .inl (upd ns 0 nm))), (m3, .inl (cI, 80, .inl (upd ds 0 dt))), (m4, .inl (cI, 80, .inl (upd ss 0 (fMix (fMix (fMix 7 kd) nm) dt))))]) rfl dMO_write_77 (fun H locs hw => ?_)
  refine lv_aload_n hx hb dMO_write_78 rfl (lv_at hl 1 rfl) ?_
  refine lv_dup hx hb dMO_write_79 rfl ?_
  refine x_get S hw (C := RMO) (T := TMO) (N := 23) inMO 0 rfl rfl 13 (by decide) xh_2_158 (v := .int (nI 0)) rfl dMO_write_80 ?_
  refine lv_iconst (v := 1) hx hb dMO_write_83 (by decide) ?_
  refine lv_iadd hx hb dMO_write_84 ?_
  refine x_topi (y := nI (0 + 1)) ((nI_succ 0).symm) ?_
  refine x_put S hw (C := RMO) (T := TMO) (N := 23) inMO tyMO tyMO_ok nmMO 0 rfl rfl 13 (by decide) xh_2_158 rfl (v := .int (nI (0 + 1))) rfl rfl (Nat.le_of_ble_eq_true rfl) (ws' := [(g, .inr (6, [.ref mP, .int cash, .int cnt, .ref mS, .ref mK, .ref mL, .ref mT, .ref mZ, .ref mD, .ref mH, .ref mG, .ref mC, .int cuts, .int (nI (0 + 1)), .ref m1, .ref m2, .ref m3, .ref m4, .ref mB, .int siz, .int ctr, .ref mX, .ref mY])), (m1, .inl (cI, 80, .inl (upd ks 0 kd))), (m2, .inl (cI, 80, .inl (upd ns 0 nm))), (m3, .inl (cI, 80, .inl (upd ds 0 dt))), (m4, .inl (cI, 80, .inl (upd ss 0 (fMix (fMix (fMix 7 kd) nm) dt))))]) rfl dMO_write_85 (fun H locs hw => ?_)
  exact x_vret S hr hlk hw (by decide) (by decide) (rfl) dMO_write_88

set_option maxHeartbeats 4000000 in
set_option maxRecDepth 100000 in
theorem m_writeS (l : Launch) (D : va_G) (cI cZ cV : ClassId) (g : Nat) (mP : Nat) (mS : Nat) (mK : Nat) (mL : Nat) (mT : Nat) (mZ : Nat) (mD : Nat) (mH : Nat) (mG : Nat) (mC : Nat) (m1 : Nat) (m2 : Nat) (m3 : Nat) (m4 : Nat) (mB : Nat) (mX : Nat) (mY : Nat) (cash : Int32) (cnt : Int32) (cuts : Int32) (siz : Int32) (ctr : Int32) (ks : Nat → Int32) (ns : Nat → Int32) (ds : Nat → Int32) (ss : Nat → Int32) (l0 : Nat) (kd : Int32) (nm : Int32) (dt : Int32) (hc : l0 + 1 < 80) : XV l yMO_write cMO_write 5 none D (xT3 cI cZ cV) 1 0 0 [.ref g, .int kd, .int nm, .int dt] [(g, .inr (6, [.ref mP, .int cash, .int cnt, .ref mS, .ref mK, .ref mL, .ref mT, .ref mZ, .ref mD, .ref mH, .ref mG, .ref mC, .int cuts, .int (nI (l0 + 1)), .ref m1, .ref m2, .ref m3, .ref m4, .ref mB, .int siz, .int ctr, .ref mX, .ref mY])), (m1, .inl (cI, 80, .inl ks)), (m2, .inl (cI, 80, .inl ns)), (m3, .inl (cI, 80, .inl ds)), (m4, .inl (cI, 80, .inl ss))] (fun u => u = [(g, .inr (6, [.ref mP, .int cash, .int cnt, .ref mS, .ref mK, .ref mL, .ref mT, .ref mZ, .ref mD, .ref mH, .ref mG, .ref mC, .int cuts, .int (nI ((l0 + 1) + 1)), .ref m1, .ref m2, .ref m3, .ref m4, .ref mB, .int siz, .int ctr, .ref mX, .ref mY])), (m1, .inl (cI, 80, .inl (upd ks (l0 + 1) kd))), (m2, .inl (cI, 80, .inl (upd ns (l0 + 1) nm))), (m3, .inl (cI, 80, .inl (upd ds (l0 + 1) dt))), (m4, .inl (cI, 80, .inl (upd ss (l0 + 1) (fMix (fMix (fMix (ss l0) kd) nm) dt))))]) := by
  intro sz
  refine x_ofW (Qc := fun A => va_Qv _ (xB D A) A) sz (by decide) (Nat.le_of_ble_eq_true rfl) ?_
  intro p e s m args below meth c A ls S hr hlk hnm hw hl
  obtain ⟨hx, hb, hml, hown, hts⟩ := id S
  have hl : lv_has ls 5 [(0, .ref g), (1, .int kd), (2, .int nm), (3, .int dt)] := hl
  refine lv_aload_n hx hb dMO_write_0 rfl (lv_at hl 0 rfl) ?_
  refine x_get S hw (C := RMO) (T := TMO) (N := 23) inMO 0 rfl rfl 13 (by decide) xh_2_158 (v := .int (nI (l0 + 1))) rfl dMO_write_1 ?_
  refine lv_if_ne (tgt := 12) hx hb dMO_write_4 (by decide) (fun h4 => ?_) (fun h4 => absurd h4 (nI_ne0 (n := l0 + 1) (by omega) (by omega)))
  refine lv_aload_n hx hb dMO_write_12 rfl (lv_at hl 0 rfl) ?_
  refine x_get S hw (C := RMO) (T := TMO) (N := 23) inMO 0 rfl rfl 17 (by decide) xh_2_162 (v := .ref m4) rfl dMO_write_13 ?_
  refine lv_aload_n hx hb dMO_write_16 rfl (lv_at hl 0 rfl) ?_
  refine x_get S hw (C := RMO) (T := TMO) (N := 23) inMO 0 rfl rfl 13 (by decide) xh_2_158 (v := .int (nI (l0 + 1))) rfl dMO_write_17 ?_
  refine lv_iconst (v := 1) hx hb dMO_write_20 (by decide) ?_
  refine lv_isub hx hb dMO_write_21 ?_
  refine x_topi (y := nI l0) (nI_pred l0) ?_
  refine x_iald S hw 4 0 rfl rfl (j := l0) (vp_in_nI (by omega) (by omega)) (nI_clamp (by omega)) dMO_write_22 ?_
  refine lv_istore (lv' := [(4, .int (ss l0)), (0, .ref g), (1, .int kd), (2, .int nm), (3, .int dt)]) hx hb dMO_write_23 hl (by decide) rfl (fun ls hl => ?_)
  refine lv_aload_n hx hb dMO_write_25 rfl (lv_at hl 1 rfl) ?_
  refine x_get S hw (C := RMO) (T := TMO) (N := 23) inMO 0 rfl rfl 14 (by decide) xh_2_159 (v := .ref m1) rfl dMO_write_26 ?_
  refine lv_aload_n hx hb dMO_write_29 rfl (lv_at hl 1 rfl) ?_
  refine x_get S hw (C := RMO) (T := TMO) (N := 23) inMO 0 rfl rfl 13 (by decide) xh_2_158 (v := .int (nI (l0 + 1))) rfl dMO_write_30 ?_
  refine lv_iload_n hx hb dMO_write_33 rfl (lv_at hl 2 rfl) ?_
  refine x_iast S hw 1 0 rfl rfl (j := (l0 + 1)) (vp_in_nI (by omega) (by omega)) (nI_clamp (by omega)) (ws' := [(g, .inr (6, [.ref mP, .int cash, .int cnt, .ref mS, .ref mK, .ref mL, .ref mT, .ref mZ, .ref mD, .ref mH, .ref mG, .ref mC, .int cuts, .int (nI (l0 + 1)), .ref m1, .ref m2, .ref m3, .ref m4, .ref mB, .int siz, .int ctr, .ref mX, .ref mY])), (m1, .inl (cI, 80, .inl (upd ks (l0 + 1) kd))), (m2, .inl (cI, 80, .inl ns)), (m3, .inl (cI, 80, .inl ds)), (m4, .inl (cI, 80, .inl ss))]) rfl dMO_write_34 (fun H locs hw => ?_)
  refine lv_aload_n hx hb dMO_write_35 rfl (lv_at hl 1 rfl) ?_
  refine x_get S hw (C := RMO) (T := TMO) (N := 23) inMO 0 rfl rfl 15 (by decide) xh_2_160 (v := .ref m2) rfl dMO_write_36 ?_
  refine lv_aload_n hx hb dMO_write_39 rfl (lv_at hl 1 rfl) ?_
  refine x_get S hw (C := RMO) (T := TMO) (N := 23) inMO 0 rfl rfl 13 (by decide) xh_2_158 (v := .int (nI (l0 + 1))) rfl dMO_write_40 ?_
  refine lv_iload_n hx hb dMO_write_43 rfl (lv_at hl 3 rfl) ?_
  refine x_iast S hw 2 0 rfl rfl (j := (l0 + 1)) (vp_in_nI (by omega) (by omega)) (nI_clamp (by omega)) (ws' := [(g, .inr (6, [.ref mP, .int cash, .int cnt, .ref mS, .ref mK, .ref mL, .ref mT, .ref mZ, .ref mD, .ref mH, .ref mG, .ref mC, .int cuts, .int (nI (l0 + 1)), .ref m1, .ref m2, .ref m3, .ref m4, .ref mB, .int siz, .int ctr, .ref mX, .ref mY])), (m1, .inl (cI, 80, .inl (upd ks (l0 + 1) kd))), (m2, .inl (cI, 80, .inl (upd ns (l0 + 1) nm))), (m3, .inl (cI, 80, .inl ds)), (m4, .inl (cI, 80, .inl ss))]) rfl dMO_write_44 (fun H locs hw => ?_)
  refine lv_aload_n hx hb dMO_write_45 rfl (lv_at hl 1 rfl) ?_
  refine x_get S hw (C := RMO) (T := TMO) (N := 23) inMO 0 rfl rfl 16 (by decide) xh_2_161 (v := .ref m3) rfl dMO_write_46 ?_
  refine lv_aload_n hx hb dMO_write_49 rfl (lv_at hl 1 rfl) ?_
  refine x_get S hw (C := RMO) (T := TMO) (N := 23) inMO 0 rfl rfl 13 (by decide) xh_2_158 (v := .int (nI (l0 + 1))) rfl dMO_write_50 ?_
  refine lv_iload_n hx hb dMO_write_53 rfl (lv_at hl 4 rfl) ?_
  refine x_iast S hw 3 0 rfl rfl (j := (l0 + 1)) (vp_in_nI (by omega) (by omega)) (nI_clamp (by omega)) (ws' := [(g, .inr (6, [.ref mP, .int cash, .int cnt, .ref mS, .ref mK, .ref mL, .ref mT, .ref mZ, .ref mD, .ref mH, .ref mG, .ref mC, .int cuts, .int (nI (l0 + 1)), .ref m1, .ref m2, .ref m3, .ref m4, .ref mB, .int siz, .int ctr, .ref mX, .ref mY])), (m1, .inl (cI, 80, .inl (upd ks (l0 + 1) kd))), (m2, .inl (cI, 80, .inl (upd ns (l0 + 1) nm))), (m3, .inl (cI, 80, .inl (upd ds (l0 + 1) dt))), (m4, .inl (cI, 80, .inl ss))]) rfl dMO_write_54 (fun H locs hw => ?_)
  refine lv_aload_n hx hb dMO_write_55 rfl (lv_at hl 1 rfl) ?_
  refine x_get S hw (C := RMO) (T := TMO) (N := 23) inMO 0 rfl rfl 17 (by decide) xh_2_162 (v := .ref m4) rfl dMO_write_56 ?_
  refine lv_aload_n hx hb dMO_write_59 rfl (lv_at hl 1 rfl) ?_
  refine x_get S hw (C := RMO) (T := TMO) (N := 23) inMO 0 rfl rfl 13 (by decide) xh_2_158 (v := .int (nI (l0 + 1))) rfl dMO_write_60 ?_
  refine lv_iload hx hb dMO_write_63 (lv_at hl 0 rfl) ?_
  refine lv_iload_n hx hb dMO_write_65 rfl (lv_at hl 2 rfl) ?_
  refine x_calliD (ws' := [(g, .inr (6, [.ref mP, .int cash, .int cnt, .ref mS, .ref mK, .ref mL, .ref mT, .ref mZ, .ref mD, .ref mH, .ref mG, .ref mC, .int cuts, .int (nI (l0 + 1)), .ref m1, .ref m2, .ref m3, .ref m4, .ref mB, .int siz, .int ctr, .ref mX, .ref mY])), (m1, .inl (cI, 80, .inl (upd ks (l0 + 1) kd))), (m2, .inl (cI, 80, .inl (upd ns (l0 + 1) nm))), (m3, .inl (cI, 80, .inl (upd ds (l0 + 1) dt))), (m4, .inl (cI, 80, .inl ss))]) hw [] rfl rfl (x_runS (n := 2) (rest := [.int (nI (l0 + 1)), .ref m4]) (As := [.int (ss l0), .int kd]) S hw (m_mix l D cI cZ cV (ss l0) kd _) xh_3_9 xh_3_7 xh_3_8 xh_1_6 (by decide +kernel) ⟨by decide, by decide⟩ [] rfl rfl rfl hl.1 rfl (Nat.le_of_ble_eq_true rfl) dMO_write_66 ⟨by decide, by decide⟩) rfl rfl (fun H locs hw => ?_)
  refine lv_iload_n hx hb dMO_write_69 rfl (lv_at hl 3 rfl) ?_
  refine x_calliD (ws' := [(g, .inr (6, [.ref mP, .int cash, .int cnt, .ref mS, .ref mK, .ref mL, .ref mT, .ref mZ, .ref mD, .ref mH, .ref mG, .ref mC, .int cuts, .int (nI (l0 + 1)), .ref m1, .ref m2, .ref m3, .ref m4, .ref mB, .int siz, .int ctr, .ref mX, .ref mY])), (m1, .inl (cI, 80, .inl (upd ks (l0 + 1) kd))), (m2, .inl (cI, 80, .inl (upd ns (l0 + 1) nm))), (m3, .inl (cI, 80, .inl (upd ds (l0 + 1) dt))), (m4, .inl (cI, 80, .inl ss))]) hw [] rfl rfl (x_runS (n := 2) (rest := [.int (nI (l0 + 1)), .ref m4]) (As := [.int (fMix (ss l0) kd), .int nm]) S hw (m_mix l D cI cZ cV (fMix (ss l0) kd) nm _) xh_3_9 xh_3_7 xh_3_8 xh_1_6 (by decide +kernel) ⟨by decide, by decide⟩ [] rfl rfl rfl hl.1 rfl (Nat.le_of_ble_eq_true rfl) dMO_write_70 ⟨by decide, by decide⟩) rfl rfl (fun H locs hw => ?_)
  refine lv_iload_n hx hb dMO_write_73 rfl (lv_at hl 4 rfl) ?_
  refine x_calliD (ws' := [(g, .inr (6, [.ref mP, .int cash, .int cnt, .ref mS, .ref mK, .ref mL, .ref mT, .ref mZ, .ref mD, .ref mH, .ref mG, .ref mC, .int cuts, .int (nI (l0 + 1)), .ref m1, .ref m2, .ref m3, .ref m4, .ref mB, .int siz, .int ctr, .ref mX, .ref mY])), (m1, .inl (cI, 80, .inl (upd ks (l0 + 1) kd))), (m2, .inl (cI, 80, .inl (upd ns (l0 + 1) nm))), (m3, .inl (cI, 80, .inl (upd ds (l0 + 1) dt))), (m4, .inl (cI, 80, .inl ss))]) hw [] rfl rfl (x_runS (n := 2) (rest := [.int (nI (l0 + 1)), .ref m4]) (As := [.int (fMix (fMix (ss l0) kd) nm), .int dt]) S hw (m_mix l D cI cZ cV (fMix (fMix (ss l0) kd) nm) dt _) xh_3_9 xh_3_7 xh_3_8 xh_1_6 (by decide +kernel) ⟨by decide, by decide⟩ [] rfl rfl rfl hl.1 rfl (Nat.le_of_ble_eq_true rfl) dMO_write_74 ⟨by decide, by decide⟩) rfl rfl (fun H locs hw => ?_)
  refine x_iast S hw 4 0 rfl rfl (j := (l0 + 1)) (vp_in_nI (by omega) (by omega)) (nI_clamp (by omega)) (ws' := [(g, .inr (6, [.ref mP, .int cash, .int cnt, .ref mS, .ref mK, .ref mL, .ref mT, .ref mZ, .ref mD, .ref mH, .ref mG, .ref mC, .int cuts, .int (nI (l0 + 1)), .ref m1, .ref m2, .ref m3, .ref m4, .ref mB, .int siz, .int ctr, .ref mX, .ref mY])), (m1, .inl (cI, 80, .inl (upd ks (l0 + 1) kd))), (m2, .inl (cI, 80, .inl (upd ns (l0 + 1) nm))), (m3, .inl (cI, 80, .inl (upd ds (l0 + 1) dt))), (m4, .inl (cI, 80, .inl (upd ss (l0 + 1) (fMix (fMix (fMix (ss l0) kd) nm) dt))))]) rfl dMO_write_77 (fun H locs hw => ?_)
  refine lv_aload_n hx hb dMO_write_78 rfl (lv_at hl 1 rfl) ?_
  refine lv_dup hx hb dMO_write_79 rfl ?_
  refine x_get S hw (C := RMO) (T := TMO) (N := 23) inMO 0 rfl rfl 13 (by decide) xh_2_158 (v := .int (nI (l0 + 1))) rfl dMO_write_80 ?_
  refine lv_iconst (v := 1) hx hb dMO_write_83 (by decide) ?_
  refine lv_iadd hx hb dMO_write_84 ?_
  refine x_topi (y := nI (l0 + 1 + 1)) ((nI_succ _).symm) ?_
  refine x_put S hw (C := RMO) (T := TMO) (N := 23) inMO tyMO tyMO_ok nmMO 0 rfl rfl 13 (by decide) xh_2_158 rfl (v := .int (nI (l0 + 1 + 1))) rfl rfl (Nat.le_of_ble_eq_true rfl) (ws' := [(g, .inr (6, [.ref mP, .int cash, .int cnt, .ref mS, .ref mK, .ref mL, .ref mT, .ref mZ, .ref mD, .ref mH, .ref mG, .ref mC, .int cuts, .int (nI (l0 + 1 + 1)), .ref m1, .ref m2, .ref m3, .ref m4, .ref mB, .int siz, .int ctr, .ref mX, .ref mY])), (m1, .inl (cI, 80, .inl (upd ks (l0 + 1) kd))), (m2, .inl (cI, 80, .inl (upd ns (l0 + 1) nm))), (m3, .inl (cI, 80, .inl (upd ds (l0 + 1) dt))), (m4, .inl (cI, 80, .inl (upd ss (l0 + 1) (fMix (fMix (fMix (ss l0) kd) nm) dt))))]) rfl dMO_write_85 (fun H locs hw => ?_)
  exact x_vret S hr hlk hw (by decide) (by decide) (rfl) dMO_write_88

theorem m_write (l : Launch) (D : va_G) (cI cZ cV : ClassId) (g : Nat) (mP : Nat) (mS : Nat) (mK : Nat) (mL : Nat) (mT : Nat) (mZ : Nat) (mD : Nat) (mH : Nat) (mG : Nat) (mC : Nat) (m1 : Nat) (m2 : Nat) (m3 : Nat) (m4 : Nat) (mB : Nat) (mX : Nat) (mY : Nat) (cash : Int32) (cnt : Int32) (cuts : Int32) (siz : Int32) (ctr : Int32) (ks : Nat → Int32) (ns : Nat → Int32) (ds : Nat → Int32) (ss : Nat → Int32) (l0 : Nat) (kd : Int32) (nm : Int32) (dt : Int32) (hc : l0 < 80) : XV l yMO_write cMO_write 5 none D (xT3 cI cZ cV) 1 0 0 [.ref g, .int kd, .int nm, .int dt] [(g, .inr (6, [.ref mP, .int cash, .int cnt, .ref mS, .ref mK, .ref mL, .ref mT, .ref mZ, .ref mD, .ref mH, .ref mG, .ref mC, .int cuts, .int (nI l0), .ref m1, .ref m2, .ref m3, .ref m4, .ref mB, .int siz, .int ctr, .ref mX, .ref mY])), (m1, .inl (cI, 80, .inl ks)), (m2, .inl (cI, 80, .inl ns)), (m3, .inl (cI, 80, .inl ds)), (m4, .inl (cI, 80, .inl ss))] (fun u => u = [(g, .inr (6, [.ref mP, .int cash, .int cnt, .ref mS, .ref mK, .ref mL, .ref mT, .ref mZ, .ref mD, .ref mH, .ref mG, .ref mC, .int cuts, .int (nI (l0 + 1)), .ref m1, .ref m2, .ref m3, .ref m4, .ref mB, .int siz, .int ctr, .ref mX, .ref mY])), (m1, .inl (cI, 80, .inl (upd ks l0 kd))), (m2, .inl (cI, 80, .inl (upd ns l0 nm))), (m3, .inl (cI, 80, .inl (upd ds l0 dt))), (m4, .inl (cI, 80, .inl (upd ss l0 (fMix (fMix (fMix (jBef ss l0) kd) nm) dt))))]) := by
  cases l0 with
  | zero => exact m_write0 l D cI cZ cV g mP mS mK mL mT mZ mD mH mG mC m1 m2 m3 m4 mB mX mY cash cnt cuts siz ctr ks ns ds ss kd nm dt
  | succ l0 => exact m_writeS l D cI cZ cV g mP mS mK mL mT mZ mD mH mG mC m1 m2 m3 m4 mB mX mY cash cnt cuts siz ctr ks ns ds ss l0 kd nm dt hc

set_option maxHeartbeats 4000000 in
set_option maxRecDepth 100000 in
theorem ml_drop {p : Program} {l : Launch} {e : Env} {s : State} {m : MethodId} {args : Array Value} {below : List Frame} {meth : Method} {c : Code} {Q : State → Prop} {D : va_G} {A : Nat → Prop} {cI cZ cV : ClassId} {H0 : Heap} {R : Room} {cells slots : Nat} (hR : R = (xR 0 0 0)) (hC : cells = 0 ∧ slots = 0) (S : CallFix p m c cMO_dropGiven 3 s args xAll "EscrowedVersionsModel") (g : Nat) (mP : Nat) (mS : Nat) (mK : Nat) (mL : Nat) (mT : Nat) (mZ : Nat) (mD : Nat) (mH : Nat) (mG : Nat) (mC : Nat) (m1 : Nat) (m2 : Nat) (m3 : Nat) (m4 : Nat) (mB : Nat) (mX : Nat) (mY : Nat) (cash : Int32) (cnt : Int32) (cuts : Int32) (lin : Int32) (siz : Int32) (ctr : Int32) (gg : Nat → Int32) (k0 : Nat) (hk0 : k0 < 8)
    (kk : ∀ (ls : Array Slot) (H : Heap) (locs : List Loc), xW D (xT3 cI cZ cV) A H0 H locs [(g, .inr (6, [.ref mP, .int cash, .int cnt, .ref mS, .ref mK, .ref mL, .ref mT, .ref mZ, .ref mD, .ref mH, .ref mG, .ref mC, .int cuts, .int lin, .ref m1, .ref m2, .ref m3, .ref m4, .ref mB, .int siz, .int ctr, .ref mX, .ref mY])), (mG, .inl (cZ, 72, .inl (dgF gg k0 9)))] s → lv_has ls 3 [(0, .ref g), (1, .int (nI k0)), (2, .int (nI 9))] → W p l e R s m args below meth c H locs cells slots Q (F0 m 26 ls [])) :
    ∀ (n k : Nat) (ls : Array Slot) (H : Heap) (locs : List Loc), k + n = 9 → xW D (xT3 cI cZ cV) A H0 H locs [(g, .inr (6, [.ref mP, .int cash, .int cnt, .ref mS, .ref mK, .ref mL, .ref mT, .ref mZ, .ref mD, .ref mH, .ref mG, .ref mC, .int cuts, .int lin, .ref m1, .ref m2, .ref m3, .ref m4, .ref mB, .int siz, .int ctr, .ref mX, .ref mY])), (mG, .inl (cZ, 72, .inl (dgF gg k0 k)))] s → lv_has ls 3 [(0, .ref g), (1, .int (nI k0)), (2, .int (nI k))] → W p l e R s m args below meth c H locs cells slots Q (F0 m 2 ls []) := by
  obtain ⟨hx, hb, hml, hown, hts⟩ := id S
  subst hR
  obtain ⟨rfl, rfl⟩ := hC
  intro n
  induction n with
  | zero =>
    intro k ls H locs hk hw hl
    obtain rfl : 9 = k := by omega
    refine lv_iload_n hx hb dMO_dropGiven_2 rfl (lv_at hl 2 rfl) ?_
    refine lv_bipush (v := 9) hx hb dMO_dropGiven_3 (by decide) ?_
    refine lv_icmp_ge (tgt := 26) hx hb dMO_dropGiven_5 (by decide) (fun h5 => ?_) (fun h5 => absurd (by decide +kernel) h5)
    exact kk ls H locs hw (lv_sub hl [0, 1, 2] rfl)
  | succ n ih =>
    intro k ls H locs hk hw hl
    have hkN : k < 9 := by omega
    refine lv_iload_n hx hb dMO_dropGiven_2 rfl (lv_at hl 2 rfl) ?_
    refine lv_bipush (v := 9) hx hb dMO_dropGiven_3 (by decide) ?_
    refine lv_icmp_ge (tgt := 26) hx hb dMO_dropGiven_5 (by decide) (fun h5 => absurd h5 (nI_ge (b := 9) hkN (by decide))) (fun h5 => ?_)
    refine lv_aload_n hx hb dMO_dropGiven_8 rfl (lv_at hl 0 rfl) ?_
    refine x_get S hw (C := RMO) (T := TMO) (N := 23) inMO 0 rfl rfl 10 (by decide) xh_2_155 (v := .ref mG) rfl dMO_dropGiven_9 ?_
    refine lv_bipush (v := 9) hx hb dMO_dropGiven_12 (by decide) ?_
    refine lv_iload_n hx hb dMO_dropGiven_14 rfl (lv_at hl 1 rfl) ?_
    refine lv_imul hx hb dMO_dropGiven_15 ?_
    refine lv_iload_n hx hb dMO_dropGiven_16 rfl (lv_at hl 2 rfl) ?_
    refine lv_iadd hx hb dMO_dropGiven_17 ?_
    refine x_topi (y := nI (9 * k0 + k)) (ix9 _ _) ?_
    refine lv_iconst (v := 0) hx hb dMO_dropGiven_18 (by decide) ?_
    refine x_zast S hw 1 1 rfl rfl (j := (9 * k0 + k)) (vp_in_nI (by omega) (by omega)) (nI_clamp (by omega)) rfl (ws' := [(g, .inr (6, [.ref mP, .int cash, .int cnt, .ref mS, .ref mK, .ref mL, .ref mT, .ref mZ, .ref mD, .ref mH, .ref mG, .ref mC, .int cuts, .int lin, .ref m1, .ref m2, .ref m3, .ref m4, .ref mB, .int siz, .int ctr, .ref mX, .ref mY])), (mG, .inl (cZ, 72, .inl (upd (dgF gg k0 k) (9 * k0 + k) 0)))]) rfl dMO_dropGiven_19 (fun H locs hw => ?_)
    refine lv_iinc (v := nI (k + 1)) (lv' := [(2, .int (nI (k + 1))), (0, .ref g), (1, .int (nI k0))]) hx hb dMO_dropGiven_20 hl (k := 2) rfl ((nI_succ _).symm) (by decide) rfl (fun ls hl => ?_)
    refine lv_goto (tgt := 2) hx hb dMO_dropGiven_23 (by decide) ?_
    have e0 : dgF gg k0 (k + 1) = upd (dgF gg k0 k) (9 * k0 + k) 0 := by simp only [dgF]
    refine ih (k + 1) ls H locs (by omega) ?_ ?_
    · rw [e0]; exact hw
    · exact lv_sub hl [1, 2, 0] rfl

set_option maxHeartbeats 4000000 in
set_option maxRecDepth 100000 in
theorem m_drop (l : Launch) (D : va_G) (cI cZ cV : ClassId) (g : Nat) (mP : Nat) (mS : Nat) (mK : Nat) (mL : Nat) (mT : Nat) (mZ : Nat) (mD : Nat) (mH : Nat) (mG : Nat) (mC : Nat) (m1 : Nat) (m2 : Nat) (m3 : Nat) (m4 : Nat) (mB : Nat) (mX : Nat) (mY : Nat) (cash : Int32) (cnt : Int32) (cuts : Int32) (lin : Int32) (siz : Int32) (ctr : Int32) (gg : Nat → Int32) (k0 : Nat) (hk0 : k0 < 8) : XV l yMO_dropGiven cMO_dropGiven 3 none D (xT3 cI cZ cV) 0 0 0 [.ref g, .int (nI k0)] [(g, .inr (6, [.ref mP, .int cash, .int cnt, .ref mS, .ref mK, .ref mL, .ref mT, .ref mZ, .ref mD, .ref mH, .ref mG, .ref mC, .int cuts, .int lin, .ref m1, .ref m2, .ref m3, .ref m4, .ref mB, .int siz, .int ctr, .ref mX, .ref mY])), (mG, .inl (cZ, 72, .inl gg))] (fun u => u = [(g, .inr (6, [.ref mP, .int cash, .int cnt, .ref mS, .ref mK, .ref mL, .ref mT, .ref mZ, .ref mD, .ref mH, .ref mG, .ref mC, .int cuts, .int lin, .ref m1, .ref m2, .ref m3, .ref m4, .ref mB, .int siz, .int ctr, .ref mX, .ref mY])), (mG, .inl (cZ, 72, .inl (dgF gg k0 9)))]) := by
  intro sz
  refine x_ofW (Qc := fun A => va_Qv _ (xB D A) A) sz (by decide) (Nat.le_of_ble_eq_true rfl) ?_
  intro p e s m args below meth c A ls S hr hlk hnm hw hl
  obtain ⟨hx, hb, hml, hown, hts⟩ := id S
  have hl : lv_has ls 3 [(0, .ref g), (1, .int (nI k0))] := hl
  refine lv_iconst (v := 0) hx hb dMO_dropGiven_0 (by decide) ?_
  refine lv_istore_n (lv' := [(2, .int 0), (0, .ref g), (1, .int (nI k0))]) hx hb dMO_dropGiven_1 rfl hl (by decide) rfl (fun ls hl => ?_)
  refine ml_drop rfl ⟨rfl, rfl⟩ S g mP mS mK mL mT mZ mD mH mG mC m1 m2 m3 m4 mB mX mY cash cnt cuts lin siz ctr gg k0 hk0 (fun ls H locs hw hl => ?_) 9 0 ls _ _ (Nat.zero_add _) hw (lv_sub hl [1, 2, 0] rfl)
  exact x_vret S hr hlk hw (by decide) (by decide) (rfl) dMO_dropGiven_26

set_option maxHeartbeats 4000000 in
set_option maxRecDepth 100000 in
theorem ml_givenTo {p : Program} {l : Launch} {e : Env} {s : State} {m : MethodId} {args : Array Value} {below : List Frame} {meth : Method} {c : Code} {Q : State → Prop} {D : va_G} {A : Nat → Prop} {cI cZ cV : ClassId} {H0 : Heap} {R : Room} {cells slots : Nat} (hR : R = (xR 0 0 0)) (hC : cells = 0 ∧ slots = 0) (S : CallFix p m c cMO_givenTo 4 s args xAll "EscrowedVersionsModel") (g : Nat) (mP : Nat) (mS : Nat) (mK : Nat) (mL : Nat) (mT : Nat) (mZ : Nat) (mD : Nat) (mH : Nat) (mG : Nat) (mC : Nat) (m1 : Nat) (m2 : Nat) (m3 : Nat) (m4 : Nat) (mB : Nat) (mX : Nat) (mY : Nat) (cash : Int32) (cnt : Int32) (cuts : Int32) (lin : Int32) (siz : Int32) (ctr : Int32) (gg : Nat → Int32) (k0 : Nat) (hk0 : k0 < 8)
    (kk : ∀ (ls : Array Slot) (H : Heap) (locs : List Loc), xW D (xT3 cI cZ cV) A H0 H locs [(g, .inr (6, [.ref mP, .int cash, .int cnt, .ref mS, .ref mK, .ref mL, .ref mT, .ref mZ, .ref mD, .ref mH, .ref mG, .ref mC, .int cuts, .int lin, .ref m1, .ref m2, .ref m3, .ref m4, .ref mB, .int siz, .int ctr, .ref mX, .ref mY])), (mG, .inl (cZ, 72, .inl gg))] s → lv_has ls 4 [(0, .ref g), (1, .int (nI k0)), (2, .int (nI (gtF gg k0 8))), (3, .int (nI (8 + 1)))] → W p l e R s m args below meth c H locs cells slots Q (F0 m 38 ls [])) :
    ∀ (n k : Nat) (ls : Array Slot) (H : Heap) (locs : List Loc), k + n = 8 → xW D (xT3 cI cZ cV) A H0 H locs [(g, .inr (6, [.ref mP, .int cash, .int cnt, .ref mS, .ref mK, .ref mL, .ref mT, .ref mZ, .ref mD, .ref mH, .ref mG, .ref mC, .int cuts, .int lin, .ref m1, .ref m2, .ref m3, .ref m4, .ref mB, .int siz, .int ctr, .ref mX, .ref mY])), (mG, .inl (cZ, 72, .inl gg))] s → lv_has ls 4 [(0, .ref g), (1, .int (nI k0)), (2, .int (nI (gtF gg k0 k))), (3, .int (nI (k + 1)))] → W p l e R s m args below meth c H locs cells slots Q (F0 m 4 ls []) := by
  obtain ⟨hx, hb, hml, hown, hts⟩ := id S
  subst hR
  obtain ⟨rfl, rfl⟩ := hC
  intro n
  induction n with
  | zero =>
    intro k ls H locs hk hw hl
    obtain rfl : 8 = k := by omega
    refine lv_iload_n hx hb dMO_givenTo_4 rfl (lv_at hl 3 rfl) ?_
    refine lv_bipush (v := 9) hx hb dMO_givenTo_5 (by decide) ?_
    refine lv_icmp_ge (tgt := 38) hx hb dMO_givenTo_7 (by decide) (fun h7 => ?_) (fun h7 => absurd (by decide +kernel) h7)
    exact kk ls H locs hw (lv_sub hl [0, 1, 2, 3] rfl)
  | succ n ih =>
    intro k ls H locs hk hw hl
    have hkN : k < 8 := by omega
    refine lv_iload_n hx hb dMO_givenTo_4 rfl (lv_at hl 3 rfl) ?_
    refine lv_bipush (v := 9) hx hb dMO_givenTo_5 (by decide) ?_
    refine lv_icmp_ge (tgt := 38) hx hb dMO_givenTo_7 (by decide) (fun h7 => absurd h7 (nI_ge (b := 9) (by omega) (by decide))) (fun h7 => ?_)
    refine lv_aload_n hx hb dMO_givenTo_10 rfl (lv_at hl 0 rfl) ?_
    refine x_get S hw (C := RMO) (T := TMO) (N := 23) inMO 0 rfl rfl 10 (by decide) xh_2_155 (v := .ref mG) rfl dMO_givenTo_11 ?_
    refine lv_bipush (v := 9) hx hb dMO_givenTo_14 (by decide) ?_
    refine lv_iload_n hx hb dMO_givenTo_16 rfl (lv_at hl 1 rfl) ?_
    refine lv_imul hx hb dMO_givenTo_17 ?_
    refine lv_iload_n hx hb dMO_givenTo_18 rfl (lv_at hl 3 rfl) ?_
    refine lv_iadd hx hb dMO_givenTo_19 ?_
    refine x_topi (y := nI (9 * k0 + (k + 1))) (ix9 _ _) ?_
    refine x_zald S hw 1 1 rfl rfl (j := (9 * k0 + (k + 1))) (vp_in_nI (by omega) (by omega)) (nI_clamp (by omega)) dMO_givenTo_20 ?_
    refine lv_if_eq (tgt := 30) hx hb dMO_givenTo_21 (by decide) (fun h21 => ?_) (fun h21 => ?_)
    · skip
      refine lv_iload_n hx hb dMO_givenTo_30 rfl (lv_at hl 2 rfl) ?_
      refine lv_istore_n (lv' := [(2, .int (nI (gtF gg k0 k))), (0, .ref g), (1, .int (nI k0)), (3, .int (nI (k + 1)))]) hx hb dMO_givenTo_31 rfl hl (by decide) rfl (fun ls hl => ?_)
      refine lv_iinc (v := nI ((k + 1) + 1)) (lv' := [(3, .int (nI ((k + 1) + 1))), (2, .int (nI (gtF gg k0 k))), (0, .ref g), (1, .int (nI k0))]) hx hb dMO_givenTo_32 hl (k := 3) rfl ((nI_succ _).symm) (by decide) rfl (fun ls hl => ?_)
      refine lv_goto (tgt := 4) hx hb dMO_givenTo_35 (by decide) ?_
      have e0 : nI (gtF gg k0 (k + 1)) = nI (gtF gg k0 k) := by simp only [gtF, if_pos h21]
      refine ih (k + 1) ls H locs (by omega) ?_ ?_
      · exact hw
      · rw [e0]; exact lv_sub hl [2, 3, 1, 0] rfl
    refine lv_iload_n hx hb dMO_givenTo_24 rfl (lv_at hl 2 rfl) ?_
    refine lv_iconst (v := 1) hx hb dMO_givenTo_25 (by decide) ?_
    refine lv_iadd hx hb dMO_givenTo_26 ?_
    refine x_topi (y := nI (gtF gg k0 k + 1)) ((nI_succ _).symm) ?_
    refine lv_goto (tgt := 31) hx hb dMO_givenTo_27 (by decide) ?_
    refine lv_istore_n (lv' := [(2, .int (nI (gtF gg k0 k + 1))), (0, .ref g), (1, .int (nI k0)), (3, .int (nI (k + 1)))]) hx hb dMO_givenTo_31 rfl hl (by decide) rfl (fun ls hl => ?_)
    refine lv_iinc (v := nI ((k + 1) + 1)) (lv' := [(3, .int (nI ((k + 1) + 1))), (2, .int (nI (gtF gg k0 k + 1))), (0, .ref g), (1, .int (nI k0))]) hx hb dMO_givenTo_32 hl (k := 3) rfl ((nI_succ _).symm) (by decide) rfl (fun ls hl => ?_)
    refine lv_goto (tgt := 4) hx hb dMO_givenTo_35 (by decide) ?_
    have e0 : nI (gtF gg k0 (k + 1)) = nI (gtF gg k0 k + 1) := by simp only [gtF, if_neg h21]
    refine ih (k + 1) ls H locs (by omega) ?_ ?_
    · exact hw
    · rw [e0]; exact lv_sub hl [2, 3, 1, 0] rfl

set_option maxHeartbeats 4000000 in
set_option maxRecDepth 100000 in
theorem m_givenTo (l : Launch) (D : va_G) (cI cZ cV : ClassId) (g : Nat) (mP : Nat) (mS : Nat) (mK : Nat) (mL : Nat) (mT : Nat) (mZ : Nat) (mD : Nat) (mH : Nat) (mG : Nat) (mC : Nat) (m1 : Nat) (m2 : Nat) (m3 : Nat) (m4 : Nat) (mB : Nat) (mX : Nat) (mY : Nat) (cash : Int32) (cnt : Int32) (cuts : Int32) (lin : Int32) (siz : Int32) (ctr : Int32) (gg : Nat → Int32) (k0 : Nat) (hk0 : k0 < 8) : XI l yMO_givenTo cMO_givenTo 4 (some .int) D (xT3 cI cZ cV) 0 0 0 [.ref g, .int (nI k0)] [(g, .inr (6, [.ref mP, .int cash, .int cnt, .ref mS, .ref mK, .ref mL, .ref mT, .ref mZ, .ref mD, .ref mH, .ref mG, .ref mC, .int cuts, .int lin, .ref m1, .ref m2, .ref m3, .ref m4, .ref mB, .int siz, .int ctr, .ref mX, .ref mY])), (mG, .inl (cZ, 72, .inl gg))] (fun r u => r = nI (gtF gg k0 8) ∧ u = [(g, .inr (6, [.ref mP, .int cash, .int cnt, .ref mS, .ref mK, .ref mL, .ref mT, .ref mZ, .ref mD, .ref mH, .ref mG, .ref mC, .int cuts, .int lin, .ref m1, .ref m2, .ref m3, .ref m4, .ref mB, .int siz, .int ctr, .ref mX, .ref mY])), (mG, .inl (cZ, 72, .inl gg))]) := by
  intro sz
  refine x_ofW (Qc := fun A => va_Qi _ (xB D A) A) sz (by decide) (Nat.le_of_ble_eq_true rfl) ?_
  intro p e s m args below meth c A ls S hr hlk hnm hw hl
  obtain ⟨hx, hb, hml, hown, hts⟩ := id S
  have hl : lv_has ls 4 [(0, .ref g), (1, .int (nI k0))] := hl
  refine lv_iconst (v := 0) hx hb dMO_givenTo_0 (by decide) ?_
  refine lv_istore_n (lv' := [(2, .int 0), (0, .ref g), (1, .int (nI k0))]) hx hb dMO_givenTo_1 rfl hl (by decide) rfl (fun ls hl => ?_)
  refine lv_iconst (v := 1) hx hb dMO_givenTo_2 (by decide) ?_
  refine lv_istore_n (lv' := [(3, .int 1), (2, .int 0), (0, .ref g), (1, .int (nI k0))]) hx hb dMO_givenTo_3 rfl hl (by decide) rfl (fun ls hl => ?_)
  refine ml_givenTo rfl ⟨rfl, rfl⟩ S g mP mS mK mL mT mZ mD mH mG mC m1 m2 m3 m4 mB mX mY cash cnt cuts lin siz ctr gg k0 hk0 (fun ls H locs hw hl => ?_) 8 0 ls _ _ (Nat.zero_add _) hw (lv_sub hl [2, 3, 1, 0] rfl)
  refine lv_iload_n hx hb dMO_givenTo_38 rfl (lv_at hl 2 rfl) ?_
  exact x_iret S hr hlk hw (by decide) (by decide) (⟨rfl, rfl⟩) dMO_givenTo_39
