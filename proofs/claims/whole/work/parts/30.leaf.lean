set_option maxHeartbeats 4000000 in
set_option maxRecDepth 100000 in
theorem k_mix (l : Launch) (D : va_G) (cI cZ cV : ClassId) (h : Int32) (x : Int32) : XI l yEV_mix cEV_mix 3 (some .int) D (xT3 cI cZ cV) 0 0 0 [.int h, .int x] [] (fun r u => r = fMix h x ∧ u = []) := by
  intro sz
  refine x_ofW (Qc := fun A => va_Qi _ (xB D A) A) sz (by decide) (Nat.le_of_ble_eq_true rfl) ?_
  intro p e s m args below meth c A ls S hr hlk hnm hw hl
  obtain ⟨hx, hb, hml, hown, hts⟩ := id S
  have hl : lv_has ls 3 [(0, .int h), (1, .int x)] := hl
  refine lv_iload_n hx hb dEV_mix_0 rfl (lv_at hl 0 rfl) ?_
  refine lv_iload_n hx hb dEV_mix_1 rfl (lv_at hl 1 rfl) ?_
  refine lv_ixor hx hb dEV_mix_2 ?_
  refine lv_ldc hx hb hown (hts _ xh_1_212) dEV_mix_3 ?_
  refine lv_imul hx hb dEV_mix_5 ?_
  refine lv_ldc hx hb hown (hts _ xh_1_213) dEV_mix_6 ?_
  refine lv_iadd hx hb dEV_mix_8 ?_
  refine lv_istore_n (lv' := [(2, .int (((h ^^^ x) * 668265263) + 374761393)), (0, .int h), (1, .int x)]) hx hb dEV_mix_9 rfl hl (by decide) rfl (fun ls hl => ?_)
  refine lv_iload_n hx hb dEV_mix_10 rfl (lv_at hl 0 rfl) ?_
  refine lv_iload_n hx hb dEV_mix_11 rfl (lv_at hl 0 rfl) ?_
  refine lv_bipush (v := 15) hx hb dEV_mix_12 (by decide) ?_
  refine lv_iushr (v := (xushr (((h ^^^ x) * 668265263) + 374761393) 15)) hx hb dEV_mix_14 rfl ?_
  refine lv_ixor hx hb dEV_mix_15 ?_
  exact x_iret S hr hlk hw (by decide) (by decide) (⟨rfl, rfl⟩) dEV_mix_16

set_option maxHeartbeats 4000000 in
set_option maxRecDepth 100000 in
theorem k_dig (l : Launch) (D : va_G) (cI cZ cV : ClassId) (i : Int32) (x : Int32) : XI l yEV_digest cEV_digest 2 (some .int) D (xT3 cI cZ cV) 1 0 0 [.int i, .int x] [] (fun r u => r = fDig i x ∧ u = []) := by
  intro sz
  refine x_ofW (Qc := fun A => va_Qi _ (xB D A) A) sz (by decide) (Nat.le_of_ble_eq_true rfl) ?_
  intro p e s m args below meth c A ls S hr hlk hnm hw hl
  obtain ⟨hx, hb, hml, hown, hts⟩ := id S
  have hl : lv_has ls 2 [(0, .int i), (1, .int x)] := hl
  refine lv_iconst (v := 5) hx hb dEV_digest_0 (by decide) ?_
  refine lv_iload_n hx hb dEV_digest_1 rfl (lv_at hl 0 rfl) ?_
  refine x_calliD (ws' := []) hw [] rfl rfl (x_runS (n := 2) (rest := []) (As := [.int 5, .int i]) S hw (k_mix l D cI cZ cV 5 i _) xh_1_211 xh_2_18 xh_1_210 xh_1_1 (by decide +kernel) ⟨by decide, by decide⟩ [] rfl rfl rfl hl.1 rfl (Nat.le_of_ble_eq_true rfl) dEV_digest_2 ⟨by decide, by decide⟩) rfl rfl (fun H locs hw => ?_)
  refine lv_iload_n hx hb dEV_digest_5 rfl (lv_at hl 1 rfl) ?_
  refine x_calliD (ws' := []) hw [] rfl rfl (x_runS (n := 2) (rest := []) (As := [.int (fMix 5 i), .int x]) S hw (k_mix l D cI cZ cV (fMix 5 i) x _) xh_1_211 xh_2_18 xh_1_210 xh_1_1 (by decide +kernel) ⟨by decide, by decide⟩ [] rfl rfl rfl hl.1 rfl (Nat.le_of_ble_eq_true rfl) dEV_digest_6 ⟨by decide, by decide⟩) rfl rfl (fun H locs hw => ?_)
  exact x_iret S hr hlk hw (by decide) (by decide) (⟨rfl, rfl⟩) dEV_digest_9

set_option maxHeartbeats 4000000 in
set_option maxRecDepth 100000 in
theorem k_pad (l : Launch) (D : va_G) (cI cZ cV : ClassId) (k : Int32) (c0 : Int32) : XI l yEV_pad cEV_pad 2 (some .int) D (xT3 cI cZ cV) 1 0 0 [.int k, .int c0] [] (fun r u => r = fPad k c0 ∧ u = []) := by
  intro sz
  refine x_ofW (Qc := fun A => va_Qi _ (xB D A) A) sz (by decide) (Nat.le_of_ble_eq_true rfl) ?_
  intro p e s m args below meth c A ls S hr hlk hnm hw hl
  obtain ⟨hx, hb, hml, hown, hts⟩ := id S
  have hl : lv_has ls 2 [(0, .int k), (1, .int c0)] := hl
  refine lv_iload_n hx hb dEV_pad_0 rfl (lv_at hl 0 rfl) ?_
  refine lv_iload_n hx hb dEV_pad_1 rfl (lv_at hl 1 rfl) ?_
  refine x_calliD (ws' := []) hw [] rfl rfl (x_runS (n := 2) (rest := []) (As := [.int k, .int c0]) S hw (k_mix l D cI cZ cV k c0 _) xh_1_211 xh_2_18 xh_1_210 xh_1_1 (by decide +kernel) ⟨by decide, by decide⟩ [] rfl rfl rfl hl.1 rfl (Nat.le_of_ble_eq_true rfl) dEV_pad_2 ⟨by decide, by decide⟩) rfl rfl (fun H locs hw => ?_)
  refine lv_iconst (v := 1) hx hb dEV_pad_5 (by decide) ?_
  refine x_calliD (ws' := []) hw [] rfl rfl (x_runS (n := 2) (rest := []) (As := [.int (fMix k c0), .int 1]) S hw (k_mix l D cI cZ cV (fMix k c0) 1 _) xh_1_211 xh_2_18 xh_1_210 xh_1_1 (by decide +kernel) ⟨by decide, by decide⟩ [] rfl rfl rfl hl.1 rfl (Nat.le_of_ble_eq_true rfl) dEV_pad_6 ⟨by decide, by decide⟩) rfl rfl (fun H locs hw => ?_)
  exact x_iret S hr hlk hw (by decide) (by decide) (⟨rfl, rfl⟩) dEV_pad_9

set_option maxHeartbeats 4000000 in
set_option maxRecDepth 100000 in
theorem k_tag (l : Launch) (D : va_G) (cI cZ cV : ClassId) (k : Int32) (c0 : Int32) (b : Int32) : XI l yEV_tag cEV_tag 3 (some .int) D (xT3 cI cZ cV) 1 0 0 [.int k, .int c0, .int b] [] (fun r u => r = fTag k c0 b ∧ u = []) := by
  intro sz
  refine x_ofW (Qc := fun A => va_Qi _ (xB D A) A) sz (by decide) (Nat.le_of_ble_eq_true rfl) ?_
  intro p e s m args below meth c A ls S hr hlk hnm hw hl
  obtain ⟨hx, hb, hml, hown, hts⟩ := id S
  have hl : lv_has ls 3 [(0, .int k), (1, .int c0), (2, .int b)] := hl
  refine lv_iload_n hx hb dEV_tag_0 rfl (lv_at hl 0 rfl) ?_
  refine lv_iconst (v := 2) hx hb dEV_tag_1 (by decide) ?_
  refine x_calliD (ws' := []) hw [] rfl rfl (x_runS (n := 2) (rest := []) (As := [.int k, .int 2]) S hw (k_mix l D cI cZ cV k 2 _) xh_1_211 xh_2_18 xh_1_210 xh_1_1 (by decide +kernel) ⟨by decide, by decide⟩ [] rfl rfl rfl hl.1 rfl (Nat.le_of_ble_eq_true rfl) dEV_tag_2 ⟨by decide, by decide⟩) rfl rfl (fun H locs hw => ?_)
  refine lv_iload_n hx hb dEV_tag_5 rfl (lv_at hl 1 rfl) ?_
  refine x_calliD (ws' := []) hw [] rfl rfl (x_runS (n := 2) (rest := []) (As := [.int (fMix k 2), .int c0]) S hw (k_mix l D cI cZ cV (fMix k 2) c0 _) xh_1_211 xh_2_18 xh_1_210 xh_1_1 (by decide +kernel) ⟨by decide, by decide⟩ [] rfl rfl rfl hl.1 rfl (Nat.le_of_ble_eq_true rfl) dEV_tag_6 ⟨by decide, by decide⟩) rfl rfl (fun H locs hw => ?_)
  refine lv_iload_n hx hb dEV_tag_9 rfl (lv_at hl 2 rfl) ?_
  refine x_calliD (ws' := []) hw [] rfl rfl (x_runS (n := 2) (rest := []) (As := [.int (fMix (fMix k 2) c0), .int b]) S hw (k_mix l D cI cZ cV (fMix (fMix k 2) c0) b _) xh_1_211 xh_2_18 xh_1_210 xh_1_1 (by decide +kernel) ⟨by decide, by decide⟩ [] rfl rfl rfl hl.1 rfl (Nat.le_of_ble_eq_true rfl) dEV_tag_10 ⟨by decide, by decide⟩) rfl rfl (fun H locs hw => ?_)
  refine lv_ldc hx hb hown (hts _ xh_2_91) dEV_tag_13 ?_
  refine lv_iand hx hb dEV_tag_15 ?_
  exact x_iret S hr hlk hw (by decide) (by decide) (⟨rfl, rfl⟩) dEV_tag_16

set_option maxHeartbeats 4000000 in
set_option maxRecDepth 100000 in
theorem k_isB (l : Launch) (D : va_G) (cI cZ cV : ClassId) (b : Int32) : XI l yEV_isByte cEV_isByte 1 (some .boolean) D (xT3 cI cZ cV) 0 0 0 [.int b] [] (fun r u => r = fIsB b ∧ u = []) := by
  intro sz
  refine x_ofW (Qc := fun A => va_Qi _ (xB D A) A) sz (by decide) (Nat.le_of_ble_eq_true rfl) ?_
  intro p e s m args below meth c A ls S hr hlk hnm hw hl
  obtain ⟨hx, hb, hml, hown, hts⟩ := id S
  have hl : lv_has ls 1 [(0, .int b)] := hl
  refine lv_iload_n hx hb dEV_isByte_0 rfl (lv_at hl 0 rfl) ?_
  refine lv_if_lt (tgt := 15) hx hb dEV_isByte_1 (by decide) (fun h1 => ?_) (fun h1 => ?_)
  · skip
    refine lv_iconst (v := 0) hx hb dEV_isByte_15 (by decide) ?_
    exact x_zret S hr hlk hw (by decide) (by decide) rfl (by first | exact ⟨rfl, rfl⟩ | (constructor <;> first | rfl | (simp only [fIsB, if_pos h1]; done))) dEV_isByte_16
  refine lv_iload_n hx hb dEV_isByte_4 rfl (lv_at hl 0 rfl) ?_
  refine lv_sipush (v := 255) hx hb dEV_isByte_5 (by decide) ?_
  refine lv_icmp_gt (tgt := 15) hx hb dEV_isByte_8 (by decide) (fun h8 => ?_) (fun h8 => ?_)
  · skip
    refine lv_iconst (v := 0) hx hb dEV_isByte_15 (by decide) ?_
    exact x_zret S hr hlk hw (by decide) (by decide) rfl (by first | exact ⟨rfl, rfl⟩ | (constructor <;> first | rfl | (simp only [fIsB, if_neg h1, if_pos h8]; done))) dEV_isByte_16
  refine lv_iconst (v := 1) hx hb dEV_isByte_11 (by decide) ?_
  refine lv_goto (tgt := 16) hx hb dEV_isByte_12 (by decide) ?_
  exact x_zret S hr hlk hw (by decide) (by decide) rfl (by first | exact ⟨rfl, rfl⟩ | (constructor <;> first | rfl | (simp only [fIsB, if_neg h1, if_neg h8]; done))) dEV_isByte_16

set_option maxHeartbeats 4000000 in
set_option maxRecDepth 100000 in
theorem k_isE (l : Launch) (D : va_G) (cI cZ cV : ClassId) (t : Int32) (n : Int32) : XI l yEV_isEscrow cEV_isEscrow 2 (some .boolean) D (xT3 cI cZ cV) 0 0 0 [.int t, .int n] [] (fun r u => r = fIsE t n ∧ u = []) := by
  intro sz
  refine x_ofW (Qc := fun A => va_Qi _ (xB D A) A) sz (by decide) (Nat.le_of_ble_eq_true rfl) ?_
  intro p e s m args below meth c A ls S hr hlk hnm hw hl
  obtain ⟨hx, hb, hml, hown, hts⟩ := id S
  have hl : lv_has ls 2 [(0, .int t), (1, .int n)] := hl
  refine lv_iload_n hx hb dEV_isEscrow_0 rfl (lv_at hl 0 rfl) ?_
  refine lv_iconst (v := 1) hx hb dEV_isEscrow_1 (by decide) ?_
  refine lv_icmp_lt (tgt := 20) hx hb dEV_isEscrow_2 (by decide) (fun h2 => ?_) (fun h2 => ?_)
  · skip
    refine lv_iconst (v := 0) hx hb dEV_isEscrow_20 (by decide) ?_
    exact x_zret S hr hlk hw (by decide) (by decide) rfl (by first | exact ⟨rfl, rfl⟩ | (constructor <;> first | rfl | (simp only [fIsE, if_pos h2]; done))) dEV_isEscrow_21
  refine lv_iload_n hx hb dEV_isEscrow_5 rfl (lv_at hl 0 rfl) ?_
  refine lv_iload_n hx hb dEV_isEscrow_6 rfl (lv_at hl 1 rfl) ?_
  refine lv_icmp_gt (tgt := 20) hx hb dEV_isEscrow_7 (by decide) (fun h7 => ?_) (fun h7 => ?_)
  · skip
    refine lv_iconst (v := 0) hx hb dEV_isEscrow_20 (by decide) ?_
    exact x_zret S hr hlk hw (by decide) (by decide) rfl (by first | exact ⟨rfl, rfl⟩ | (constructor <;> first | rfl | (simp only [fIsE, if_neg h2, if_pos h7]; done))) dEV_isEscrow_21
  refine lv_iload_n hx hb dEV_isEscrow_10 rfl (lv_at hl 1 rfl) ?_
  refine lv_bipush (v := 8) hx hb dEV_isEscrow_11 (by decide) ?_
  refine lv_icmp_gt (tgt := 20) hx hb dEV_isEscrow_13 (by decide) (fun h13 => ?_) (fun h13 => ?_)
  · skip
    refine lv_iconst (v := 0) hx hb dEV_isEscrow_20 (by decide) ?_
    exact x_zret S hr hlk hw (by decide) (by decide) rfl (by first | exact ⟨rfl, rfl⟩ | (constructor <;> first | rfl | (simp only [fIsE, if_neg h2, if_neg h7, if_pos h13]; done))) dEV_isEscrow_21
  refine lv_iconst (v := 1) hx hb dEV_isEscrow_16 (by decide) ?_
  refine lv_goto (tgt := 21) hx hb dEV_isEscrow_17 (by decide) ?_
  exact x_zret S hr hlk hw (by decide) (by decide) rfl (by first | exact ⟨rfl, rfl⟩ | (constructor <;> first | rfl | (simp only [fIsE, if_neg h2, if_neg h7, if_neg h13]; done))) dEV_isEscrow_21

set_option maxHeartbeats 4000000 in
set_option maxRecDepth 100000 in
theorem lp_prod {p : Program} {l : Launch} {e : Env} {s : State} {m : MethodId} {args : Array Value} {below : List Frame} {meth : Method} {c : Code} {Q : State → Prop} {D : va_G} {A : Nat → Prop} {cI cZ cV : ClassId} {H0 : Heap} {R : Room} {cells slots : Nat} (hR : R = (xR 0 0 0)) (hC : cells = 0 ∧ slots = 0) (S : CallFix p m c cFI_product 5 s args xAll "EscrowedVersions$Field") (a : Int32) (b : Int32)
    (kk : ∀ (ls : Array Slot) (H : Heap) (locs : List Loc), xW D (xT3 cI cZ cV) A H0 H locs [] s → lv_has ls 5 [(0, .int a), (1, .int b), (2, .int ((prF a b 8).1)), (3, .int ((prF a b 8).2)), (4, .int (nI 8))] → W p l e R s m args below meth c H locs cells slots Q (F0 m 50 ls [])) :
    ∀ (n k : Nat) (ls : Array Slot) (H : Heap) (locs : List Loc), k + n = 8 → xW D (xT3 cI cZ cV) A H0 H locs [] s → lv_has ls 5 [(0, .int a), (1, .int b), (2, .int ((prF a b k).1)), (3, .int ((prF a b k).2)), (4, .int (nI k))] → W p l e R s m args below meth c H locs cells slots Q (F0 m 7 ls []) := by
  obtain ⟨hx, hb, hml, hown, hts⟩ := id S
  subst hR
  obtain ⟨rfl, rfl⟩ := hC
  intro n
  induction n with
  | zero =>
    intro k ls H locs hk hw hl
    obtain rfl : 8 = k := by omega
    refine lv_iload hx hb dFI_product_7 (lv_at hl 4 rfl) ?_
    refine lv_bipush (v := 8) hx hb dFI_product_9 (by decide) ?_
    refine lv_icmp_ge (tgt := 50) hx hb dFI_product_11 (by decide) (fun h11 => ?_) (fun h11 => absurd (by decide +kernel) h11)
    exact kk ls H locs hw (lv_sub hl [0, 1, 2, 3, 4] rfl)
  | succ n ih =>
    intro k ls H locs hk hw hl
    have hkN : k < 8 := by omega
    refine lv_iload hx hb dFI_product_7 (lv_at hl 4 rfl) ?_
    refine lv_bipush (v := 8) hx hb dFI_product_9 (by decide) ?_
    refine lv_icmp_ge (tgt := 50) hx hb dFI_product_11 (by decide) (fun h11 => absurd h11 (nI_ge hkN (by decide))) (fun h11 => ?_)
    refine lv_iload_n hx hb dFI_product_14 rfl (lv_at hl 1 rfl) ?_
    refine lv_iload hx hb dFI_product_15 (lv_at hl 4 rfl) ?_
    refine lv_ishr hx hb dFI_product_17 ?_
    refine lv_iconst (v := 1) hx hb dFI_product_18 (by decide) ?_
    refine lv_iand hx hb dFI_product_19 ?_
    refine lv_if_eq (tgt := 27) hx hb dFI_product_20 (by decide) (fun h20 => ?_) (fun h20 => ?_)
    · skip
      refine lv_iload_n hx hb dFI_product_27 rfl (lv_at hl 3 rfl) ?_
      refine lv_iconst (v := 1) hx hb dFI_product_28 (by decide) ?_
      refine lv_ishl hx hb dFI_product_29 ?_
      refine lv_istore_n (lv' := [(3, .int (((prF a b k).2) <<< ((1 : Int32) &&& 31))), (0, .int a), (1, .int b), (2, .int ((prF a b k).1)), (4, .int (nI k))]) hx hb dFI_product_30 rfl hl (by decide) rfl (fun ls hl => ?_)
      refine lv_iload_n hx hb dFI_product_31 rfl (lv_at hl 0 rfl) ?_
      refine lv_sipush (v := 255) hx hb dFI_product_32 (by decide) ?_
      refine lv_icmp_le (tgt := 44) hx hb dFI_product_35 (by decide) (fun h35 => ?_) (fun h35 => ?_)
      · skip
        refine lv_iinc (v := nI (k + 1)) (lv' := [(4, .int (nI (k + 1))), (3, .int (((prF a b k).2) <<< ((1 : Int32) &&& 31))), (0, .int a), (1, .int b), (2, .int ((prF a b k).1))]) hx hb dFI_product_44 hl (k := 4) rfl ((nI_succ _).symm) (by decide) rfl (fun ls hl => ?_)
        refine lv_goto (tgt := 7) hx hb dFI_product_47 (by decide) ?_
        have e0 : (prF a b (k + 1)).1 = (prF a b k).1 := by simp only [prF, if_pos h20, if_pos h35]
        have e1 : (prF a b (k + 1)).2 = ((prF a b k).2) <<< ((1 : Int32) &&& 31) := by simp only [prF, if_pos h20, if_pos h35]
        refine ih (k + 1) ls H locs (by omega) ?_ ?_
        · exact hw
        · rw [e0, e1]; exact lv_sub hl [2, 3, 4, 1, 0] rfl
      refine lv_iload_n hx hb dFI_product_38 rfl (lv_at hl 0 rfl) ?_
      refine lv_sipush (v := 283) hx hb dFI_product_39 (by decide) ?_
      refine lv_ixor hx hb dFI_product_42 ?_
      refine lv_istore_n (lv' := [(3, .int ((((prF a b k).2) <<< ((1 : Int32) &&& 31)) ^^^ 283)), (0, .int a), (1, .int b), (2, .int ((prF a b k).1)), (4, .int (nI k))]) hx hb dFI_product_43 rfl hl (by decide) rfl (fun ls hl => ?_)
      refine lv_iinc (v := nI (k + 1)) (lv' := [(4, .int (nI (k + 1))), (3, .int ((((prF a b k).2) <<< ((1 : Int32) &&& 31)) ^^^ 283)), (0, .int a), (1, .int b), (2, .int ((prF a b k).1))]) hx hb dFI_product_44 hl (k := 4) rfl ((nI_succ _).symm) (by decide) rfl (fun ls hl => ?_)
      refine lv_goto (tgt := 7) hx hb dFI_product_47 (by decide) ?_
      have e0 : (prF a b (k + 1)).1 = (prF a b k).1 := by simp only [prF, if_pos h20, if_neg h35]
      have e1 : (prF a b (k + 1)).2 = (((prF a b k).2) <<< ((1 : Int32) &&& 31)) ^^^ 283 := by simp only [prF, if_pos h20, if_neg h35]
      refine ih (k + 1) ls H locs (by omega) ?_ ?_
      · exact hw
      · rw [e0, e1]; exact lv_sub hl [2, 3, 4, 1, 0] rfl
    refine lv_iload_n hx hb dFI_product_23 rfl (lv_at hl 2 rfl) ?_
    refine lv_iload_n hx hb dFI_product_24 rfl (lv_at hl 3 rfl) ?_
    refine lv_ixor hx hb dFI_product_25 ?_
    refine lv_istore_n (lv' := [(2, .int (((prF a b k).1) ^^^ ((prF a b k).2))), (0, .int a), (1, .int b), (3, .int ((prF a b k).2)), (4, .int (nI k))]) hx hb dFI_product_26 rfl hl (by decide) rfl (fun ls hl => ?_)
    refine lv_iload_n hx hb dFI_product_27 rfl (lv_at hl 3 rfl) ?_
    refine lv_iconst (v := 1) hx hb dFI_product_28 (by decide) ?_
    refine lv_ishl hx hb dFI_product_29 ?_
    refine lv_istore_n (lv' := [(3, .int (((prF a b k).2) <<< ((1 : Int32) &&& 31))), (2, .int (((prF a b k).1) ^^^ ((prF a b k).2))), (0, .int a), (1, .int b), (4, .int (nI k))]) hx hb dFI_product_30 rfl hl (by decide) rfl (fun ls hl => ?_)
    refine lv_iload_n hx hb dFI_product_31 rfl (lv_at hl 0 rfl) ?_
    refine lv_sipush (v := 255) hx hb dFI_product_32 (by decide) ?_
    refine lv_icmp_le (tgt := 44) hx hb dFI_product_35 (by decide) (fun h35 => ?_) (fun h35 => ?_)
    · skip
      refine lv_iinc (v := nI (k + 1)) (lv' := [(4, .int (nI (k + 1))), (3, .int (((prF a b k).2) <<< ((1 : Int32) &&& 31))), (2, .int (((prF a b k).1) ^^^ ((prF a b k).2))), (0, .int a), (1, .int b)]) hx hb dFI_product_44 hl (k := 4) rfl ((nI_succ _).symm) (by decide) rfl (fun ls hl => ?_)
      refine lv_goto (tgt := 7) hx hb dFI_product_47 (by decide) ?_
      have e0 : (prF a b (k + 1)).1 = ((prF a b k).1) ^^^ ((prF a b k).2) := by simp only [prF, if_neg h20, if_pos h35]
      have e1 : (prF a b (k + 1)).2 = ((prF a b k).2) <<< ((1 : Int32) &&& 31) := by simp only [prF, if_neg h20, if_pos h35]
      refine ih (k + 1) ls H locs (by omega) ?_ ?_
      · exact hw
      · rw [e0, e1]; exact lv_sub hl [3, 4, 2, 1, 0] rfl
    refine lv_iload_n hx hb dFI_product_38 rfl (lv_at hl 0 rfl) ?_
    refine lv_sipush (v := 283) hx hb dFI_product_39 (by decide) ?_
    refine lv_ixor hx hb dFI_product_42 ?_
    refine lv_istore_n (lv' := [(3, .int ((((prF a b k).2) <<< ((1 : Int32) &&& 31)) ^^^ 283)), (2, .int (((prF a b k).1) ^^^ ((prF a b k).2))), (0, .int a), (1, .int b), (4, .int (nI k))]) hx hb dFI_product_43 rfl hl (by decide) rfl (fun ls hl => ?_)
    refine lv_iinc (v := nI (k + 1)) (lv' := [(4, .int (nI (k + 1))), (3, .int ((((prF a b k).2) <<< ((1 : Int32) &&& 31)) ^^^ 283)), (2, .int (((prF a b k).1) ^^^ ((prF a b k).2))), (0, .int a), (1, .int b)]) hx hb dFI_product_44 hl (k := 4) rfl ((nI_succ _).symm) (by decide) rfl (fun ls hl => ?_)
    refine lv_goto (tgt := 7) hx hb dFI_product_47 (by decide) ?_
    have e0 : (prF a b (k + 1)).1 = ((prF a b k).1) ^^^ ((prF a b k).2) := by simp only [prF, if_neg h20, if_neg h35]
    have e1 : (prF a b (k + 1)).2 = (((prF a b k).2) <<< ((1 : Int32) &&& 31)) ^^^ 283 := by simp only [prF, if_neg h20, if_neg h35]
    refine ih (k + 1) ls H locs (by omega) ?_ ?_
    · exact hw
    · rw [e0, e1]; exact lv_sub hl [3, 4, 2, 1, 0] rfl

set_option maxHeartbeats 4000000 in
set_option maxRecDepth 100000 in
theorem k_prod (l : Launch) (D : va_G) (cI cZ cV : ClassId) (a : Int32) (b : Int32) : XI l yFI_product cFI_product 5 (some .int) D (xT3 cI cZ cV) 0 0 0 [.int a, .int b] [] (fun r u => r = fProd a b ∧ u = []) := by
  intro sz
  refine x_ofW (Qc := fun A => va_Qi _ (xB D A) A) sz (by decide) (Nat.le_of_ble_eq_true rfl) ?_
  intro p e s m args below meth c A ls S hr hlk hnm hw hl
  obtain ⟨hx, hb, hml, hown, hts⟩ := id S
  have hl : lv_has ls 5 [(0, .int a), (1, .int b)] := hl
  refine lv_iconst (v := 0) hx hb dFI_product_0 (by decide) ?_
  refine lv_istore_n (lv' := [(2, .int 0), (0, .int a), (1, .int b)]) hx hb dFI_product_1 rfl hl (by decide) rfl (fun ls hl => ?_)
  refine lv_iload_n hx hb dFI_product_2 rfl (lv_at hl 1 rfl) ?_
  refine lv_istore_n (lv' := [(3, .int a), (2, .int 0), (0, .int a), (1, .int b)]) hx hb dFI_product_3 rfl hl (by decide) rfl (fun ls hl => ?_)
  refine lv_iconst (v := 0) hx hb dFI_product_4 (by decide) ?_
  refine lv_istore (lv' := [(4, .int 0), (3, .int a), (2, .int 0), (0, .int a), (1, .int b)]) hx hb dFI_product_5 hl (by decide) rfl (fun ls hl => ?_)
  refine lp_prod rfl ⟨rfl, rfl⟩ S a b (fun ls H locs hw hl => ?_) 8 0 ls _ _ (Nat.zero_add _) hw (lv_sub hl [3, 4, 2, 1, 0] rfl)
  refine lv_iload_n hx hb dFI_product_50 rfl (lv_at hl 2 rfl) ?_
  exact x_iret S hr hlk hw (by decide) (by decide) (⟨by unfold fProd; rfl, rfl⟩) dFI_product_51

set_option maxHeartbeats 4000000 in
set_option maxRecDepth 100000 in
theorem lp_inv {p : Program} {l : Launch} {e : Env} {s : State} {m : MethodId} {args : Array Value} {below : List Frame} {meth : Method} {c : Code} {Q : State → Prop} {D : va_G} {A : Nat → Prop} {cI cZ cV : ClassId} {H0 : Heap} {R : Room} {cells slots : Nat} (hR : R = (xR 1 0 0)) (hC : cells = 0 ∧ slots = 0) (S : CallFix p m c cFI_inverse 4 s args xAll "EscrowedVersions$Field") (a : Int32)
    (kk : ∀ (ls : Array Slot) (H : Heap) (locs : List Loc), xW D (xT3 cI cZ cV) A H0 H locs [] s → lv_has ls 4 [(0, .int a), (1, .int ((ivF a 7).1)), (2, .int ((ivF a 7).2)), (3, .int (nI (7 + 1)))] → W p l e R s m args below meth c H locs cells slots Q (F0 m 30 ls [])) :
    ∀ (n k : Nat) (ls : Array Slot) (H : Heap) (locs : List Loc), k + n = 7 → xW D (xT3 cI cZ cV) A H0 H locs [] s → lv_has ls 4 [(0, .int a), (1, .int ((ivF a k).1)), (2, .int ((ivF a k).2)), (3, .int (nI (k + 1)))] → W p l e R s m args below meth c H locs cells slots Q (F0 m 6 ls []) := by
  obtain ⟨hx, hb, hml, hown, hts⟩ := id S
  subst hR
  obtain ⟨rfl, rfl⟩ := hC
  intro n
  induction n with
  | zero =>
    intro k ls H locs hk hw hl
    obtain rfl : 7 = k := by omega
    refine lv_iload_n hx hb dFI_inverse_6 rfl (lv_at hl 3 rfl) ?_
    refine lv_bipush (v := 8) hx hb dFI_inverse_7 (by decide) ?_
    refine lv_icmp_ge (tgt := 30) hx hb dFI_inverse_9 (by decide) (fun h9 => ?_) (fun h9 => absurd (by decide +kernel) h9)
    exact kk ls H locs hw (lv_sub hl [0, 1, 2, 3] rfl)
  | succ n ih =>
    intro k ls H locs hk hw hl
    have hkN : k < 7 := by omega
    refine lv_iload_n hx hb dFI_inverse_6 rfl (lv_at hl 3 rfl) ?_
    refine lv_bipush (v := 8) hx hb dFI_inverse_7 (by decide) ?_
    refine lv_icmp_ge (tgt := 30) hx hb dFI_inverse_9 (by decide) (fun h9 => absurd h9 (nI_ge (a := k + 1) (b := 8) (by omega) (by decide))) (fun h9 => ?_)
    refine lv_iload_n hx hb dFI_inverse_12 rfl (lv_at hl 1 rfl) ?_
    refine lv_iload_n hx hb dFI_inverse_13 rfl (lv_at hl 1 rfl) ?_
    refine x_calliD (ws' := []) hw [] rfl rfl (x_runS (n := 2) (rest := []) (As := [.int ((ivF a k).1), .int ((ivF a k).1)]) S hw (k_prod l D cI cZ cV ((ivF a k).1) ((ivF a k).1) _) xh_1_145 xh_2_67 xh_1_144 xh_1_7 (by decide +kernel) ⟨by decide, by decide⟩ [] rfl rfl rfl hl.1 rfl (Nat.le_of_ble_eq_true rfl) dFI_inverse_14 ⟨by decide, by decide⟩) rfl rfl (fun H locs hw => ?_)
    refine lv_istore_n (lv' := [(1, .int (fProd ((ivF a k).1) ((ivF a k).1))), (0, .int a), (2, .int ((ivF a k).2)), (3, .int (nI (k + 1)))]) hx hb dFI_inverse_17 rfl hl (by decide) rfl (fun ls hl => ?_)
    refine lv_iload_n hx hb dFI_inverse_18 rfl (lv_at hl 2 rfl) ?_
    refine lv_iload_n hx hb dFI_inverse_19 rfl (lv_at hl 0 rfl) ?_
    refine x_calliD (ws' := []) hw [] rfl rfl (x_runS (n := 2) (rest := []) (As := [.int ((ivF a k).2), .int (fProd ((ivF a k).1) ((ivF a k).1))]) S hw (k_prod l D cI cZ cV ((ivF a k).2) (fProd ((ivF a k).1) ((ivF a k).1)) _) xh_1_145 xh_2_67 xh_1_144 xh_1_7 (by decide +kernel) ⟨by decide, by decide⟩ [] rfl rfl rfl hl.1 rfl (Nat.le_of_ble_eq_true rfl) dFI_inverse_20 ⟨by decide, by decide⟩) rfl rfl (fun H locs hw => ?_)
    refine lv_istore_n (lv' := [(2, .int (fProd ((ivF a k).2) (fProd ((ivF a k).1) ((ivF a k).1)))), (1, .int (fProd ((ivF a k).1) ((ivF a k).1))), (0, .int a), (3, .int (nI (k + 1)))]) hx hb dFI_inverse_23 rfl hl (by decide) rfl (fun ls hl => ?_)
    refine lv_iinc (v := nI ((k + 1) + 1)) (lv' := [(3, .int (nI ((k + 1) + 1))), (2, .int (fProd ((ivF a k).2) (fProd ((ivF a k).1) ((ivF a k).1)))), (1, .int (fProd ((ivF a k).1) ((ivF a k).1))), (0, .int a)]) hx hb dFI_inverse_24 hl (k := 3) rfl ((nI_succ _).symm) (by decide) rfl (fun ls hl => ?_)
    refine lv_goto (tgt := 6) hx hb dFI_inverse_27 (by decide) ?_
    have e0 : (ivF a (k + 1)).1 = fProd ((ivF a k).1) ((ivF a k).1) := by simp only [ivF]
    have e1 : (ivF a (k + 1)).2 = fProd ((ivF a k).2) (fProd ((ivF a k).1) ((ivF a k).1)) := by simp only [ivF]
    refine ih (k + 1) ls H locs (by omega) ?_ ?_
    · exact hw
    · rw [e0, e1]; exact lv_sub hl [3, 2, 1, 0] rfl

set_option maxHeartbeats 4000000 in
set_option maxRecDepth 100000 in
theorem k_inv (l : Launch) (D : va_G) (cI cZ cV : ClassId) (a : Int32) : XI l yFI_inverse cFI_inverse 4 (some .int) D (xT3 cI cZ cV) 1 0 0 [.int a] [] (fun r u => r = fInv a ∧ u = []) := by
  intro sz
  refine x_ofW (Qc := fun A => va_Qi _ (xB D A) A) sz (by decide) (Nat.le_of_ble_eq_true rfl) ?_
  intro p e s m args below meth c A ls S hr hlk hnm hw hl
  obtain ⟨hx, hb, hml, hown, hts⟩ := id S
  have hl : lv_has ls 4 [(0, .int a)] := hl
  refine lv_iload_n hx hb dFI_inverse_0 rfl (lv_at hl 0 rfl) ?_
  refine lv_istore_n (lv' := [(1, .int a), (0, .int a)]) hx hb dFI_inverse_1 rfl hl (by decide) rfl (fun ls hl => ?_)
  refine lv_iconst (v := 1) hx hb dFI_inverse_2 (by decide) ?_
  refine lv_istore_n (lv' := [(2, .int 1), (1, .int a), (0, .int a)]) hx hb dFI_inverse_3 rfl hl (by decide) rfl (fun ls hl => ?_)
  refine lv_iconst (v := 1) hx hb dFI_inverse_4 (by decide) ?_
  refine lv_istore_n (lv' := [(3, .int 1), (2, .int 1), (1, .int a), (0, .int a)]) hx hb dFI_inverse_5 rfl hl (by decide) rfl (fun ls hl => ?_)
  refine lp_inv rfl ⟨rfl, rfl⟩ S a (fun ls H locs hw hl => ?_) 7 0 ls _ _ (Nat.zero_add _) hw (lv_sub hl [3, 2, 1, 0] rfl)
  refine lv_iload_n hx hb dFI_inverse_30 rfl (lv_at hl 2 rfl) ?_
  exact x_iret S hr hlk hw (by decide) (by decide) (⟨by unfold fInv; rfl, rfl⟩) dFI_inverse_31

set_option maxHeartbeats 4000000 in
set_option maxRecDepth 100000 in
theorem k_putLast (l : Launch) (D : va_G) (cI cZ cV : ClassId) (q : Nat) (q1 : Nat) (ring : Nat → Int32) (f : Nat) (n : Nat) (b : Int32) (hf : f < 64) (hn : n < 64) : XV l yCR_putLast cCR_putLast 2 none D (xT3 cI cZ cV) 0 0 0 [.ref q, .int b] [(q, .inr (0, [.ref q1, .int (nI f), .int (nI n)])), (q1, .inl (cI, 64, .inl ring))] (fun u => u = [(q, .inr (0, [.ref q1, .int (nI f), .int (nI (n + 1))])), (q1, .inl (cI, 64, .inl (upd ring ((f + n) % 64) b)))]) := by
  intro sz
  refine x_ofW (Qc := fun A => va_Qv _ (xB D A) A) sz (by decide) (Nat.le_of_ble_eq_true rfl) ?_
  intro p e s m args below meth c A ls S hr hlk hnm hw hl
  obtain ⟨hx, hb, hml, hown, hts⟩ := id S
  have hl : lv_has ls 2 [(0, .ref q), (1, .int b)] := hl
  refine lv_aload_n hx hb dCR_putLast_0 rfl (lv_at hl 0 rfl) ?_
  refine x_get S hw (C := RCR) (T := TCR) (N := 3) inCR 0 rfl rfl 0 (by decide) xh_1_24 (v := .ref q1) rfl dCR_putLast_1 ?_
  refine lv_aload_n hx hb dCR_putLast_4 rfl (lv_at hl 0 rfl) ?_
  refine x_get S hw (C := RCR) (T := TCR) (N := 3) inCR 0 rfl rfl 1 (by decide) xh_1_25 (v := .int (nI f)) rfl dCR_putLast_5 ?_
  refine lv_aload_n hx hb dCR_putLast_8 rfl (lv_at hl 0 rfl) ?_
  refine x_get S hw (C := RCR) (T := TCR) (N := 3) inCR 0 rfl rfl 2 (by decide) xh_1_26 (v := .int (nI n)) rfl dCR_putLast_9 ?_
  refine lv_iadd hx hb dCR_putLast_12 ?_
  refine lv_bipush (v := 63) hx hb dCR_putLast_13 (by decide) ?_
  refine lv_iand hx hb dCR_putLast_15 ?_
  refine x_topi (y := nI ((f + n) % 64)) (by rw [nI_add, pk_andN (by omega) 6 (by decide)]) ?_
  refine lv_iload_n hx hb dCR_putLast_16 rfl (lv_at hl 1 rfl) ?_
  refine x_iast S hw 1 0 rfl rfl (j := ((f + n) % 64)) (vp_in_nI (by omega) (by decide)) (nI_clamp (by omega)) (ws' := [(q, .inr (0, [.ref q1, .int (nI f), .int (nI n)])), (q1, .inl (cI, 64, .inl (upd ring ((f + n) % 64) b)))]) rfl dCR_putLast_17 (fun H locs hw => ?_)
  refine lv_aload_n hx hb dCR_putLast_18 rfl (lv_at hl 0 rfl) ?_
  refine lv_dup hx hb dCR_putLast_19 rfl ?_
  refine x_get S hw (C := RCR) (T := TCR) (N := 3) inCR 0 rfl rfl 2 (by decide) xh_1_26 (v := .int (nI n)) rfl dCR_putLast_20 ?_
  refine lv_iconst (v := 1) hx hb dCR_putLast_23 (by decide) ?_
  refine lv_iadd hx hb dCR_putLast_24 ?_
  refine x_topi (y := nI (n + 1)) ((nI_succ n).symm) ?_
  refine x_put S hw (C := RCR) (T := TCR) (N := 3) inCR tyCR tyCR_ok nmCR 0 rfl rfl 2 (by decide) xh_1_26 rfl (v := .int (nI (n + 1))) rfl rfl (Nat.le_of_ble_eq_true rfl) (ws' := [(q, .inr (0, [.ref q1, .int (nI f), .int (nI (n + 1))])), (q1, .inl (cI, 64, .inl (upd ring ((f + n) % 64) b)))]) rfl dCR_putLast_25 (fun H locs hw => ?_)
  exact x_vret S hr hlk hw (by decide) (by decide) (rfl) dCR_putLast_28

set_option maxHeartbeats 4000000 in
set_option maxRecDepth 100000 in
theorem k_take (l : Launch) (D : va_G) (cI cZ cV : ClassId) (q : Nat) (q1 : Nat) (ring : Nat → Int32) (f : Nat) (n : Nat) (hf : f < 64) : XI l yCR_take cCR_take 2 (some .int) D (xT3 cI cZ cV) 0 0 0 [.ref q] [(q, .inr (0, [.ref q1, .int (nI f), .int (nI (n + 1))])), (q1, .inl (cI, 64, .inl ring))] (fun r u => r = ring f ∧ u = [(q, .inr (0, [.ref q1, .int (nI ((f + 1) % 64)), .int (nI n)])), (q1, .inl (cI, 64, .inl (upd ring f 0)))]) := by
  intro sz
  refine x_ofW (Qc := fun A => va_Qi _ (xB D A) A) sz (by decide) (Nat.le_of_ble_eq_true rfl) ?_
  intro p e s m args below meth c A ls S hr hlk hnm hw hl
  obtain ⟨hx, hb, hml, hown, hts⟩ := id S
  have hl : lv_has ls 2 [(0, .ref q)] := hl
  refine lv_aload_n hx hb dCR_take_0 rfl (lv_at hl 0 rfl) ?_
  refine x_get S hw (C := RCR) (T := TCR) (N := 3) inCR 0 rfl rfl 0 (by decide) xh_1_24 (v := .ref q1) rfl dCR_take_1 ?_
  refine lv_aload_n hx hb dCR_take_4 rfl (lv_at hl 0 rfl) ?_
  refine x_get S hw (C := RCR) (T := TCR) (N := 3) inCR 0 rfl rfl 1 (by decide) xh_1_25 (v := .int (nI f)) rfl dCR_take_5 ?_
  refine x_iald S hw 1 0 rfl rfl (j := f) (vp_in_nI (by omega) (by omega)) (nI_clamp (by omega)) dCR_take_8 ?_
  refine lv_istore_n (lv' := [(1, .int (ring f)), (0, .ref q)]) hx hb dCR_take_9 rfl hl (by decide) rfl (fun ls hl => ?_)
  refine lv_aload_n hx hb dCR_take_10 rfl (lv_at hl 1 rfl) ?_
  refine x_get S hw (C := RCR) (T := TCR) (N := 3) inCR 0 rfl rfl 0 (by decide) xh_1_24 (v := .ref q1) rfl dCR_take_11 ?_
  refine lv_aload_n hx hb dCR_take_14 rfl (lv_at hl 1 rfl) ?_
  refine x_get S hw (C := RCR) (T := TCR) (N := 3) inCR 0 rfl rfl 1 (by decide) xh_1_25 (v := .int (nI f)) rfl dCR_take_15 ?_
  refine lv_iconst (v := 0) hx hb dCR_take_18 (by decide) ?_
  refine x_iast S hw 1 0 rfl rfl (j := f) (vp_in_nI (by omega) (by omega)) (nI_clamp (by omega)) (ws' := [(q, .inr (0, [.ref q1, .int (nI f), .int (nI (n + 1))])), (q1, .inl (cI, 64, .inl (upd ring f 0)))]) rfl dCR_take_19 (fun H locs hw => ?_)
  refine lv_aload_n hx hb dCR_take_20 rfl (lv_at hl 1 rfl) ?_
  refine lv_aload_n hx hb dCR_take_21 rfl (lv_at hl 1 rfl) ?_
  refine x_get S hw (C := RCR) (T := TCR) (N := 3) inCR 0 rfl rfl 1 (by decide) xh_1_25 (v := .int (nI f)) rfl dCR_take_22 ?_
  refine lv_iconst (v := 1) hx hb dCR_take_25 (by decide) ?_
  refine lv_iadd hx hb dCR_take_26 ?_
  refine lv_bipush (v := 63) hx hb dCR_take_27 (by decide) ?_
  refine lv_iand hx hb dCR_take_29 ?_
  refine x_topi (y := nI ((f + 1) % 64)) (by rw [nI_1, pk_andN (by omega) 6 (by decide)]) ?_
  refine x_put S hw (C := RCR) (T := TCR) (N := 3) inCR tyCR tyCR_ok nmCR 0 rfl rfl 1 (by decide) xh_1_25 rfl (v := .int (nI ((f + 1) % 64))) rfl rfl (Nat.le_of_ble_eq_true rfl) (ws' := [(q, .inr (0, [.ref q1, .int (nI ((f + 1) % 64)), .int (nI (n + 1))])), (q1, .inl (cI, 64, .inl (upd ring f 0)))]) rfl dCR_take_30 (fun H locs hw => ?_)
  refine lv_aload_n hx hb dCR_take_33 rfl (lv_at hl 1 rfl) ?_
  refine lv_dup hx hb dCR_take_34 rfl ?_
  refine x_get S hw (C := RCR) (T := TCR) (N := 3) inCR 0 rfl rfl 2 (by decide) xh_1_26 (v := .int (nI (n + 1))) rfl dCR_take_35 ?_
  refine lv_iconst (v := 1) hx hb dCR_take_38 (by decide) ?_
  refine lv_isub hx hb dCR_take_39 ?_
  refine x_topi (y := nI n) (nI_pred n) ?_
  refine x_put S hw (C := RCR) (T := TCR) (N := 3) inCR tyCR tyCR_ok nmCR 0 rfl rfl 2 (by decide) xh_1_26 rfl (v := .int (nI n)) rfl rfl (Nat.le_of_ble_eq_true rfl) (ws' := [(q, .inr (0, [.ref q1, .int (nI ((f + 1) % 64)), .int (nI n)])), (q1, .inl (cI, 64, .inl (upd ring f 0)))]) rfl dCR_take_40 (fun H locs hw => ?_)
  refine lv_iload_n hx hb dCR_take_43 rfl (lv_at hl 0 rfl) ?_
  exact x_iret S hr hlk hw (by decide) (by decide) (⟨rfl, rfl⟩) dCR_take_44

set_option maxHeartbeats 4000000 in
set_option maxRecDepth 100000 in
theorem lp_takeInt {p : Program} {l : Launch} {e : Env} {s : State} {m : MethodId} {args : Array Value} {below : List Frame} {meth : Method} {c : Code} {Q : State → Prop} {D : va_G} {A : Nat → Prop} {cI cZ cV : ClassId} {H0 : Heap} {R : Room} {cells slots : Nat} (hR : R = (xR 1 0 0)) (hC : cells = 0 ∧ slots = 0) (S : CallFix p m c cCR_takeInt 3 s args xAll "EscrowedVersions$CoinRow") (q : Nat) (q1 : Nat) (ring : Nat → Int32) (f : Nat) (c0 : Nat)
    (kk : ∀ (ls : Array Slot) (H : Heap) (locs : List Loc), xW D (xT3 cI cZ cV) A H0 H locs [(q, .inr (0, [.ref q1, .int (nI ((f + 4) % 64)), .int (nI (c0 + 0))])), (q1, .inl (cI, 64, .inl (tkR ring f 4)))] s → lv_has ls 3 [(0, .ref q), (1, .int (tiF ring f 4)), (2, .int (nI 4))] → W p l e R s m args below meth c H locs cells slots Q (F0 m 25 ls [])) :
    ∀ (n k : Nat) (ls : Array Slot) (H : Heap) (locs : List Loc), k + n = 4 → xW D (xT3 cI cZ cV) A H0 H locs [(q, .inr (0, [.ref q1, .int (nI ((f + k) % 64)), .int (nI (c0 + n))])), (q1, .inl (cI, 64, .inl (tkR ring f k)))] s → lv_has ls 3 [(0, .ref q), (1, .int (tiF ring f k)), (2, .int (nI k))] → W p l e R s m args below meth c H locs cells slots Q (F0 m 4 ls []) := by
  obtain ⟨hx, hb, hml, hown, hts⟩ := id S
  subst hR
  obtain ⟨rfl, rfl⟩ := hC
  intro n
  induction n with
  | zero =>
    intro k ls H locs hk hw hl
    obtain rfl : 4 = k := by omega
    refine lv_iload_n hx hb dCR_takeInt_4 rfl (lv_at hl 2 rfl) ?_
    refine lv_iconst (v := 4) hx hb dCR_takeInt_5 (by decide) ?_
    refine lv_icmp_ge (tgt := 25) hx hb dCR_takeInt_6 (by decide) (fun h6 => ?_) (fun h6 => absurd (by decide +kernel) h6)
    exact kk ls H locs hw (lv_sub hl [0, 1, 2] rfl)
  | succ n ih =>
    intro k ls H locs hk hw hl
    have hkN : k < 4 := by omega
    refine lv_iload_n hx hb dCR_takeInt_4 rfl (lv_at hl 2 rfl) ?_
    refine lv_iconst (v := 4) hx hb dCR_takeInt_5 (by decide) ?_
    refine lv_icmp_ge (tgt := 25) hx hb dCR_takeInt_6 (by decide) (fun h6 => absurd h6 (nI_ge hkN (by decide))) (fun h6 => ?_)
    refine lv_iload_n hx hb dCR_takeInt_9 rfl (lv_at hl 1 rfl) ?_
    refine lv_bipush (v := 8) hx hb dCR_takeInt_10 (by decide) ?_
    refine lv_ishl hx hb dCR_takeInt_12 ?_
    refine lv_aload_n hx hb dCR_takeInt_13 rfl (lv_at hl 0 rfl) ?_
    refine x_calliD (ws' := [(q, .inr (0, [.ref q1, .int (nI ((((f + k) % 64) + 1) % 64)), .int (nI (c0 + n))])), (q1, .inl (cI, 64, .inl (upd (tkR ring f k) ((f + k) % 64) 0)))]) hw [0, 1] rfl rfl (x_runV (n := 0) (rest := [.int (tiF ring f k <<< ((8 : Int32) &&& 31))]) (As := []) S hw (k_take l D cI cZ cV q q1 (tkR ring f k) ((f + k) % 64) (c0 + n) (Nat.mod_lt _ (by decide)) _) xh_1_162 xh_1_159 xh_1_160 xh_1_161 xh_1_2 (by decide +kernel) ⟨by decide, by decide⟩ [0, 1] rfl rfl (ci := 0) (q0 := 0) rfl rfl rfl hl.1 rfl (Nat.le_of_ble_eq_true rfl) dCR_takeInt_14 ⟨by decide, by decide⟩) rfl rfl (fun H locs hw => ?_)
    refine lv_ior hx hb dCR_takeInt_17 ?_
    refine lv_istore_n (lv' := [(1, .int ((tiF ring f k <<< ((8 : Int32) &&& 31)) ||| ((tkR ring f k) ((f + k) % 64)))), (0, .ref q), (2, .int (nI k))]) hx hb dCR_takeInt_18 rfl hl (by decide) rfl (fun ls hl => ?_)
    refine lv_iinc (v := nI (k + 1)) (lv' := [(2, .int (nI (k + 1))), (1, .int ((tiF ring f k <<< ((8 : Int32) &&& 31)) ||| ((tkR ring f k) ((f + k) % 64)))), (0, .ref q)]) hx hb dCR_takeInt_19 hl (k := 2) rfl ((nI_succ _).symm) (by decide) rfl (fun ls hl => ?_)
    refine lv_goto (tgt := 4) hx hb dCR_takeInt_22 (by decide) ?_
    have e0 : tiF ring f (k + 1) = (tiF ring f k <<< ((8 : Int32) &&& 31)) ||| ((tkR ring f k) ((f + k) % 64)) := by simp only [tiF, tkR]
    have e1 : nI ((f + (k + 1)) % 64) = nI ((((f + k) % 64) + 1) % 64) := by rw [show (f + (k + 1)) % 64 = ((f + k) % 64 + 1) % 64 by omega]
    have e2 : tkR ring f (k + 1) = upd (tkR ring f k) ((f + k) % 64) 0 := by simp only [tiF, tkR]
    refine ih (k + 1) ls H locs (by omega) ?_ ?_
    · rw [e1, e2]; exact hw
    · rw [e0]; exact lv_sub hl [2, 1, 0] rfl

set_option maxHeartbeats 4000000 in
set_option maxRecDepth 100000 in
theorem k_takeInt (l : Launch) (D : va_G) (cI cZ cV : ClassId) (q : Nat) (q1 : Nat) (ring : Nat → Int32) (f : Nat) (c0 : Nat) (hf : f < 64) : XI l yCR_takeInt cCR_takeInt 3 (some .int) D (xT3 cI cZ cV) 1 0 0 [.ref q] [(q, .inr (0, [.ref q1, .int (nI f), .int (nI (c0 + 4))])), (q1, .inl (cI, 64, .inl ring))] (fun r u => r = tiF ring f 4 ∧ u = [(q, .inr (0, [.ref q1, .int (nI ((f + 4) % 64)), .int (nI c0)])), (q1, .inl (cI, 64, .inl (tkR ring f 4)))]) := by
  intro sz
  refine x_ofW (Qc := fun A => va_Qi _ (xB D A) A) sz (by decide) (Nat.le_of_ble_eq_true rfl) ?_
  intro p e s m args below meth c A ls S hr hlk hnm hw hl
  obtain ⟨hx, hb, hml, hown, hts⟩ := id S
  have hl : lv_has ls 3 [(0, .ref q)] := hl
  refine lv_iconst (v := 0) hx hb dCR_takeInt_0 (by decide) ?_
  refine lv_istore_n (lv' := [(1, .int 0), (0, .ref q)]) hx hb dCR_takeInt_1 rfl hl (by decide) rfl (fun ls hl => ?_)
  refine lv_iconst (v := 0) hx hb dCR_takeInt_2 (by decide) ?_
  refine lv_istore_n (lv' := [(2, .int 0), (1, .int 0), (0, .ref q)]) hx hb dCR_takeInt_3 rfl hl (by decide) rfl (fun ls hl => ?_)
  have hw : xW D (xT3 cI cZ cV) A s.heap s.heap [] [(q, .inr (0, [.ref q1, .int (nI ((f + 0) % 64)), .int (nI (c0 + 4))])), (q1, .inl (cI, 64, .inl (tkR ring f 0)))] s := by rw [Nat.add_zero, Nat.mod_eq_of_lt hf]; exact hw
  refine lp_takeInt rfl ⟨rfl, rfl⟩ S q q1 ring f c0 (fun ls H locs hw hl => ?_) 4 0 ls _ _ (Nat.zero_add _) hw (lv_sub hl [2, 1, 0] rfl)
  refine lv_iload_n hx hb dCR_takeInt_25 rfl (lv_at hl 1 rfl) ?_
  exact x_iret S hr hlk hw (by decide) (by decide) (⟨rfl, rfl⟩) dCR_takeInt_26
