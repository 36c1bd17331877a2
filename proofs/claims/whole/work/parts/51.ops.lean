set_option maxHeartbeats 4000000 in
set_option maxRecDepth 100000 in
theorem o_coin {p : Program} {l : Launch} {e : Env} {s : State} {m : MethodId} {args : Array Value} {below : List Frame} {meth : Method} {c : Code} {Q : State → Prop} {D : va_G} {A : Nat → Prop} {cI cZ cV : ClassId} {H : Heap} {locs : List Loc} {ls : Array Slot} {cells slots : Nat} (S : CallFix p m c code 4 s args xAll "EscrowedVersionsLaw") {sb L : Nat} {xs : Nat → Int32} (hX : va_X sb L xs s s.heap) (hbl : sb < s.heap.size) (hbA : ¬ A sb) (hL : L ≤ 2048) {h g i0 : Nat} (hi : i0 + 3 < L) (hl : lv_has ls 4 [(0, .ref sb), (1, .ref h), (2, .ref g), (3, .int (nI i0))]) {wc wm ro : va_W} (hw : xW D (xT3 cI cZ cV) A s.heap H locs (wc ++ (wm ++ ro)) s)
    {d1 d2 mc ms : Nat} (hd : d1 ≤ 5 ∧ d2 ≤ 4 ∧ mc ≤ 3 ∧ ms ≤ 28) (hcs : cells + 3 ≤ 600000 ∧ slots + 28 ≤ 7302250) {qE qM : Nat} {fE fM : List Value} (hE : (wc ++ (wm ++ ro))[qE]? = some (h, .inr (5, fE))) (hM : (wm ++ ro)[qM]? = some (g, .inr (6, fM)))
    {Pc Pm : Int32 → va_W → Prop} (hc : XI l yEV_coin cEV_coin 2 (some .boolean) D (xT3 cI cZ cV) d1 mc ms [.ref h, .int (xs (i0 + 1))] wc Pc) (hm : XI l yMO_coin cMO_coin 2 (some .boolean) D (xT3 cI cZ cV) d2 0 0 [.ref g, .int (xs (i0 + 1))] wm Pm)
    (kk : ∀ (r1 : Int32) (u1 : va_W) (r2 : Int32) (u2 : va_W) (H : Heap) (locs : List Loc) (ls : Array Slot), Pc r1 u1 → Pm r2 u2 → xW D (xT3 cI cZ cV) A s.heap H locs (u2 ++ (u1 ++ ro)) s → lv_has ls 4 [(0, .ref sb), (1, .ref h), (2, .ref g), (3, .int (nI i0))] → r1 = r2 ∧ W p l e room_1 s m args below meth c H locs (cells + 3) (slots + 28) Q (F0 m 582 ls [])) :
    W p l e room_1 s m args below meth c H locs cells slots Q (F0 m 124 ls []) := by
  obtain ⟨hx, hb, hml, hown, hts⟩ := id S
  refine lv_aload_n hx hb dLA_law_124 rfl (lv_at hl 1 rfl) ?_
  refine lv_aload_n hx hb dLA_law_125 rfl (lv_at hl 0 rfl) ?_
  refine lv_iload_n hx hb dLA_law_126 rfl (lv_at hl 3 rfl) ?_
  refine lv_iconst (v := 1) hx hb dLA_law_127 (by decide) ?_
  refine lv_iadd hx hb dLA_law_128 ?_
  refine x_sld S hw hX hbl hbA (i0 + 1) (nI_add i0 1) (by omega) hL dLA_law_129 ?_
  refine x_calliP hw (x_runVP (n := 1) (rest := []) (As := [.int (xs (i0 + 1))]) (N := 8) (T := TEV) S hw (hc _) xh_1_127 xh_1_124 xh_1_125 xh_1_126 xh_1_1 (by decide +kernel) ⟨by show _ ≤ 8; omega, by show _ ≤ 274; omega⟩ rfl hE rfl hl.1 rfl (Nat.le_of_ble_eq_true rfl) dLA_law_130 ⟨by show _ ≤ 600000; omega, by show _ ≤ 7302250; omega⟩) (fun r1 u1 H locs hr1 hw => ?_)
  have hw := x_perm (List.perm_append_comm_assoc u1 wm ro) hw
  obtain ⟨qM2, fM2, hM2⟩ : ∃ (q : Nat) (f : List Value), (wm ++ (u1 ++ ro))[q]? = some (g, .inr (6, f)) := by
    obtain ⟨q, hq⟩ := List.getElem?_of_mem ((List.perm_append_comm_assoc u1 wm ro).mem_iff.mp (List.mem_append_right _ (List.mem_of_getElem? hM)))
    exact ⟨q, _, hq⟩
  refine lv_aload_n hx hb dLA_law_133 rfl (lv_at hl 2 rfl) ?_
  refine lv_aload_n hx hb dLA_law_134 rfl (lv_at hl 0 rfl) ?_
  refine lv_iload_n hx hb dLA_law_135 rfl (lv_at hl 3 rfl) ?_
  refine lv_iconst (v := 1) hx hb dLA_law_136 (by decide) ?_
  refine lv_iadd hx hb dLA_law_137 ?_
  refine x_sld S hw hX hbl hbA (i0 + 1) (nI_add i0 1) (by omega) hL dLA_law_138 ?_
  refine x_calliP hw (x_runVP (n := 1) (rest := [.int r1]) (As := [.int (xs (i0 + 1))]) (N := 23) (T := TMO) S hw (hm _) xh_2_219 xh_2_216 xh_2_217 xh_2_218 xh_1_6 (by decide +kernel) ⟨by show _ ≤ 8; omega, by show _ ≤ 274; omega⟩ rfl hM2 rfl hl.1 rfl (Nat.le_of_ble_eq_true rfl) dLA_law_139 ⟨by show _ ≤ 600000; omega, by show _ ≤ 7302250; omega⟩) (fun r2 u2 H locs hr2 hw => ?_)
  obtain ⟨hrr, hW⟩ := kk r1 u1 r2 u2 H locs ls hr1 hr2 hw hl
  refine lv_icmp_eq (tgt := 582) hx hb dLA_law_142 (by decide) (fun _ => ?_) (fun h9 => absurd hrr h9)
  exact W.widen (by omega) (by omega) hW

set_option maxHeartbeats 4000000 in
set_option maxRecDepth 100000 in
theorem o_coins {p : Program} {l : Launch} {e : Env} {s : State} {m : MethodId} {args : Array Value} {below : List Frame} {meth : Method} {c : Code} {Q : State → Prop} {D : va_G} {A : Nat → Prop} {cI cZ cV : ClassId} {H : Heap} {locs : List Loc} {ls : Array Slot} {cells slots : Nat} (S : CallFix p m c code 4 s args xAll "EscrowedVersionsLaw") {sb L : Nat} {xs : Nat → Int32} (hX : va_X sb L xs s s.heap) (hbl : sb < s.heap.size) (hbA : ¬ A sb) (hL : L ≤ 2048) {h g i0 : Nat} (hi : i0 + 3 < L) (hl : lv_has ls 4 [(0, .ref sb), (1, .ref h), (2, .ref g), (3, .int (nI i0))]) {wc wm ro : va_W} (hw : xW D (xT3 cI cZ cV) A s.heap H locs (wc ++ (wm ++ ro)) s)
    {d1 d2 mc ms : Nat} (hd : d1 ≤ 5 ∧ d2 ≤ 4 ∧ mc ≤ 3 ∧ ms ≤ 28) (hcs : cells + 3 ≤ 600000 ∧ slots + 28 ≤ 7302250) {qE qM : Nat} {fE fM : List Value} (hE : (wc ++ (wm ++ ro))[qE]? = some (h, .inr (5, fE))) (hM : (wm ++ ro)[qM]? = some (g, .inr (6, fM)))
    {Pc Pm : Int32 → va_W → Prop} (hc : XI l yEV_coins cEV_coins 1 (some .int) D (xT3 cI cZ cV) d1 mc ms [.ref h] wc Pc) (hm : XI l yMO_coins cMO_coins 1 (some .int) D (xT3 cI cZ cV) d2 0 0 [.ref g] wm Pm)
    (kk : ∀ (r1 : Int32) (u1 : va_W) (r2 : Int32) (u2 : va_W) (H : Heap) (locs : List Loc) (ls : Array Slot), Pc r1 u1 → Pm r2 u2 → xW D (xT3 cI cZ cV) A s.heap H locs (u2 ++ (u1 ++ ro)) s → lv_has ls 4 [(0, .ref sb), (1, .ref h), (2, .ref g), (3, .int (nI i0))] → r1 = r2 ∧ W p l e room_1 s m args below meth c H locs (cells + 3) (slots + 28) Q (F0 m 582 ls [])) :
    W p l e room_1 s m args below meth c H locs cells slots Q (F0 m 147 ls []) := by
  obtain ⟨hx, hb, hml, hown, hts⟩ := id S
  refine lv_aload_n hx hb dLA_law_147 rfl (lv_at hl 1 rfl) ?_
  refine x_calliP hw (x_runVP (n := 0) (rest := []) (As := []) (N := 8) (T := TEV) S hw (hc _) xh_1_138 xh_1_135 xh_1_136 xh_1_137 xh_1_1 (by decide +kernel) ⟨by show _ ≤ 8; omega, by show _ ≤ 274; omega⟩ rfl hE rfl hl.1 rfl (Nat.le_of_ble_eq_true rfl) dLA_law_148 ⟨by show _ ≤ 600000; omega, by show _ ≤ 7302250; omega⟩) (fun r1 u1 H locs hr1 hw => ?_)
  have hw := x_perm (List.perm_append_comm_assoc u1 wm ro) hw
  obtain ⟨qM2, fM2, hM2⟩ : ∃ (q : Nat) (f : List Value), (wm ++ (u1 ++ ro))[q]? = some (g, .inr (6, f)) := by
    obtain ⟨q, hq⟩ := List.getElem?_of_mem ((List.perm_append_comm_assoc u1 wm ro).mem_iff.mp (List.mem_append_right _ (List.mem_of_getElem? hM)))
    exact ⟨q, _, hq⟩
  refine lv_aload_n hx hb dLA_law_151 rfl (lv_at hl 2 rfl) ?_
  refine x_calliP hw (x_runVP (n := 0) (rest := [.int r1]) (As := []) (N := 23) (T := TMO) S hw (hm _) xh_2_223 xh_2_220 xh_2_221 xh_2_222 xh_1_6 (by decide +kernel) ⟨by show _ ≤ 8; omega, by show _ ≤ 274; omega⟩ rfl hM2 rfl hl.1 rfl (Nat.le_of_ble_eq_true rfl) dLA_law_152 ⟨by show _ ≤ 600000; omega, by show _ ≤ 7302250; omega⟩) (fun r2 u2 H locs hr2 hw => ?_)
  obtain ⟨hrr, hW⟩ := kk r1 u1 r2 u2 H locs ls hr1 hr2 hw hl
  refine lv_icmp_eq (tgt := 582) hx hb dLA_law_155 (by decide) (fun _ => ?_) (fun h9 => absurd hrr h9)
  exact W.widen (by omega) (by omega) hW

set_option maxHeartbeats 4000000 in
set_option maxRecDepth 100000 in
theorem o_times {p : Program} {l : Launch} {e : Env} {s : State} {m : MethodId} {args : Array Value} {below : List Frame} {meth : Method} {c : Code} {Q : State → Prop} {D : va_G} {A : Nat → Prop} {cI cZ cV : ClassId} {H : Heap} {locs : List Loc} {ls : Array Slot} {cells slots : Nat} (S : CallFix p m c code 4 s args xAll "EscrowedVersionsLaw") {sb L : Nat} {xs : Nat → Int32} (hX : va_X sb L xs s s.heap) (hbl : sb < s.heap.size) (hbA : ¬ A sb) (hL : L ≤ 2048) {h g i0 : Nat} (hi : i0 + 3 < L) (hl : lv_has ls 4 [(0, .ref sb), (1, .ref h), (2, .ref g), (3, .int (nI i0))]) {wc wm ro : va_W} (hw : xW D (xT3 cI cZ cV) A s.heap H locs (wc ++ (wm ++ ro)) s)
    {d1 d2 mc ms : Nat} (hd : d1 ≤ 5 ∧ d2 ≤ 4 ∧ mc ≤ 3 ∧ ms ≤ 28) (hcs : cells + 3 ≤ 600000 ∧ slots + 28 ≤ 7302250) {qE qM : Nat} {fE fM : List Value} (hE : (wc ++ (wm ++ ro))[qE]? = some (h, .inr (5, fE))) (hM : (wm ++ ro)[qM]? = some (g, .inr (6, fM)))
    {Pc Pm : Int32 → va_W → Prop} (hc : XI l yEV_times cEV_times 3 (some .int) D (xT3 cI cZ cV) d1 mc ms [.ref h, .int (xs (i0 + 1)), .int (xs (i0 + 2))] wc Pc) (hm : XI l yMO_times cMO_times 3 (some .int) D (xT3 cI cZ cV) d2 0 0 [.ref g, .int (xs (i0 + 1)), .int (xs (i0 + 2))] wm Pm)
    (kk : ∀ (r1 : Int32) (u1 : va_W) (r2 : Int32) (u2 : va_W) (H : Heap) (locs : List Loc) (ls : Array Slot), Pc r1 u1 → Pm r2 u2 → xW D (xT3 cI cZ cV) A s.heap H locs (u2 ++ (u1 ++ ro)) s → lv_has ls 4 [(0, .ref sb), (1, .ref h), (2, .ref g), (3, .int (nI i0))] → r1 = r2 ∧ W p l e room_1 s m args below meth c H locs (cells + 3) (slots + 28) Q (F0 m 582 ls [])) :
    W p l e room_1 s m args below meth c H locs cells slots Q (F0 m 160 ls []) := by
  obtain ⟨hx, hb, hml, hown, hts⟩ := id S
  refine lv_aload_n hx hb dLA_law_160 rfl (lv_at hl 1 rfl) ?_
  refine lv_aload_n hx hb dLA_law_161 rfl (lv_at hl 0 rfl) ?_
  refine lv_iload_n hx hb dLA_law_162 rfl (lv_at hl 3 rfl) ?_
  refine lv_iconst (v := 1) hx hb dLA_law_163 (by decide) ?_
  refine lv_iadd hx hb dLA_law_164 ?_
  refine x_sld S hw hX hbl hbA (i0 + 1) (nI_add i0 1) (by omega) hL dLA_law_165 ?_
  refine lv_aload_n hx hb dLA_law_166 rfl (lv_at hl 0 rfl) ?_
  refine lv_iload_n hx hb dLA_law_167 rfl (lv_at hl 3 rfl) ?_
  refine lv_iconst (v := 2) hx hb dLA_law_168 (by decide) ?_
  refine lv_iadd hx hb dLA_law_169 ?_
  refine x_sld S hw hX hbl hbA (i0 + 2) (nI_add i0 2) (by omega) hL dLA_law_170 ?_
  refine x_calliP hw (x_runVP (n := 2) (rest := []) (As := [.int (xs (i0 + 1)), .int (xs (i0 + 2))]) (N := 8) (T := TEV) S hw (hc _) xh_1_142 xh_1_139 xh_1_140 xh_1_141 xh_1_1 (by decide +kernel) ⟨by show _ ≤ 8; omega, by show _ ≤ 274; omega⟩ rfl hE rfl hl.1 rfl (Nat.le_of_ble_eq_true rfl) dLA_law_171 ⟨by show _ ≤ 600000; omega, by show _ ≤ 7302250; omega⟩) (fun r1 u1 H locs hr1 hw => ?_)
  have hw := x_perm (List.perm_append_comm_assoc u1 wm ro) hw
  obtain ⟨qM2, fM2, hM2⟩ : ∃ (q : Nat) (f : List Value), (wm ++ (u1 ++ ro))[q]? = some (g, .inr (6, f)) := by
    obtain ⟨q, hq⟩ := List.getElem?_of_mem ((List.perm_append_comm_assoc u1 wm ro).mem_iff.mp (List.mem_append_right _ (List.mem_of_getElem? hM)))
    exact ⟨q, _, hq⟩
  refine lv_aload_n hx hb dLA_law_174 rfl (lv_at hl 2 rfl) ?_
  refine lv_aload_n hx hb dLA_law_175 rfl (lv_at hl 0 rfl) ?_
  refine lv_iload_n hx hb dLA_law_176 rfl (lv_at hl 3 rfl) ?_
  refine lv_iconst (v := 1) hx hb dLA_law_177 (by decide) ?_
  refine lv_iadd hx hb dLA_law_178 ?_
  refine x_sld S hw hX hbl hbA (i0 + 1) (nI_add i0 1) (by omega) hL dLA_law_179 ?_
  refine lv_aload_n hx hb dLA_law_180 rfl (lv_at hl 0 rfl) ?_
  refine lv_iload_n hx hb dLA_law_181 rfl (lv_at hl 3 rfl) ?_
  refine lv_iconst (v := 2) hx hb dLA_law_182 (by decide) ?_
  refine lv_iadd hx hb dLA_law_183 ?_
  refine x_sld S hw hX hbl hbA (i0 + 2) (nI_add i0 2) (by omega) hL dLA_law_184 ?_
  refine x_calliP hw (x_runVP (n := 2) (rest := [.int r1]) (As := [.int (xs (i0 + 1)), .int (xs (i0 + 2))]) (N := 23) (T := TMO) S hw (hm _) xh_2_227 xh_2_224 xh_2_225 xh_2_226 xh_1_6 (by decide +kernel) ⟨by show _ ≤ 8; omega, by show _ ≤ 274; omega⟩ rfl hM2 rfl hl.1 rfl (Nat.le_of_ble_eq_true rfl) dLA_law_185 ⟨by show _ ≤ 600000; omega, by show _ ≤ 7302250; omega⟩) (fun r2 u2 H locs hr2 hw => ?_)
  obtain ⟨hrr, hW⟩ := kk r1 u1 r2 u2 H locs ls hr1 hr2 hw hl
  refine lv_icmp_eq (tgt := 582) hx hb dLA_law_188 (by decide) (fun _ => ?_) (fun h9 => absurd hrr h9)
  exact W.widen (by omega) (by omega) hW

set_option maxHeartbeats 4000000 in
set_option maxRecDepth 100000 in
theorem o_rotate {p : Program} {l : Launch} {e : Env} {s : State} {m : MethodId} {args : Array Value} {below : List Frame} {meth : Method} {c : Code} {Q : State → Prop} {D : va_G} {A : Nat → Prop} {cI cZ cV : ClassId} {H : Heap} {locs : List Loc} {ls : Array Slot} {cells slots : Nat} (S : CallFix p m c code 4 s args xAll "EscrowedVersionsLaw") {sb L : Nat} {xs : Nat → Int32} (hX : va_X sb L xs s s.heap) (hbl : sb < s.heap.size) (hbA : ¬ A sb) (hL : L ≤ 2048) {h g i0 : Nat} (hi : i0 + 3 < L) (hl : lv_has ls 4 [(0, .ref sb), (1, .ref h), (2, .ref g), (3, .int (nI i0))]) {wc wm ro : va_W} (hw : xW D (xT3 cI cZ cV) A s.heap H locs (wc ++ (wm ++ ro)) s)
    {d1 d2 mc ms : Nat} (hd : d1 ≤ 5 ∧ d2 ≤ 4 ∧ mc ≤ 3 ∧ ms ≤ 28) (hcs : cells + 3 ≤ 600000 ∧ slots + 28 ≤ 7302250) {qE qM : Nat} {fE fM : List Value} (hE : (wc ++ (wm ++ ro))[qE]? = some (h, .inr (5, fE))) (hM : (wm ++ ro)[qM]? = some (g, .inr (6, fM)))
    {Pc Pm : Int32 → va_W → Prop} (hc : XI l yEV_rotate cEV_rotate 2 (some .int) D (xT3 cI cZ cV) d1 mc ms [.ref h] wc Pc) (hm : XI l yMO_rotate cMO_rotate 4 (some .int) D (xT3 cI cZ cV) d2 0 0 [.ref g] wm Pm)
    (kk : ∀ (r1 : Int32) (u1 : va_W) (r2 : Int32) (u2 : va_W) (H : Heap) (locs : List Loc) (ls : Array Slot), Pc r1 u1 → Pm r2 u2 → xW D (xT3 cI cZ cV) A s.heap H locs (u2 ++ (u1 ++ ro)) s → lv_has ls 4 [(0, .ref sb), (1, .ref h), (2, .ref g), (3, .int (nI i0))] → r1 = r2 ∧ W p l e room_1 s m args below meth c H locs (cells + 3) (slots + 28) Q (F0 m 582 ls [])) :
    W p l e room_1 s m args below meth c H locs cells slots Q (F0 m 193 ls []) := by
  obtain ⟨hx, hb, hml, hown, hts⟩ := id S
  refine lv_aload_n hx hb dLA_law_193 rfl (lv_at hl 1 rfl) ?_
  refine x_calliP hw (x_runVP (n := 0) (rest := []) (As := []) (N := 8) (T := TEV) S hw (hc _) xh_1_149 xh_1_146 xh_1_147 xh_1_148 xh_1_1 (by decide +kernel) ⟨by show _ ≤ 8; omega, by show _ ≤ 274; omega⟩ rfl hE rfl hl.1 rfl (Nat.le_of_ble_eq_true rfl) dLA_law_194 ⟨by show _ ≤ 600000; omega, by show _ ≤ 7302250; omega⟩) (fun r1 u1 H locs hr1 hw => ?_)
  have hw := x_perm (List.perm_append_comm_assoc u1 wm ro) hw
  obtain ⟨qM2, fM2, hM2⟩ : ∃ (q : Nat) (f : List Value), (wm ++ (u1 ++ ro))[q]? = some (g, .inr (6, f)) := by
    obtain ⟨q, hq⟩ := List.getElem?_of_mem ((List.perm_append_comm_assoc u1 wm ro).mem_iff.mp (List.mem_append_right _ (List.mem_of_getElem? hM)))
    exact ⟨q, _, hq⟩
  refine lv_aload_n hx hb dLA_law_197 rfl (lv_at hl 2 rfl) ?_
  refine x_calliP hw (x_runVP (n := 0) (rest := [.int r1]) (As := []) (N := 23) (T := TMO) S hw (hm _) xh_2_234 xh_2_231 xh_2_232 xh_2_233 xh_1_6 (by decide +kernel) ⟨by show _ ≤ 8; omega, by show _ ≤ 274; omega⟩ rfl hM2 rfl hl.1 rfl (Nat.le_of_ble_eq_true rfl) dLA_law_198 ⟨by show _ ≤ 600000; omega, by show _ ≤ 7302250; omega⟩) (fun r2 u2 H locs hr2 hw => ?_)
  obtain ⟨hrr, hW⟩ := kk r1 u1 r2 u2 H locs ls hr1 hr2 hw hl
  refine lv_icmp_eq (tgt := 582) hx hb dLA_law_201 (by decide) (fun _ => ?_) (fun h9 => absurd hrr h9)
  exact W.widen (by omega) (by omega) hW

set_option maxHeartbeats 4000000 in
set_option maxRecDepth 100000 in
theorem o_destroy {p : Program} {l : Launch} {e : Env} {s : State} {m : MethodId} {args : Array Value} {below : List Frame} {meth : Method} {c : Code} {Q : State → Prop} {D : va_G} {A : Nat → Prop} {cI cZ cV : ClassId} {H : Heap} {locs : List Loc} {ls : Array Slot} {cells slots : Nat} (S : CallFix p m c code 4 s args xAll "EscrowedVersionsLaw") {sb L : Nat} {xs : Nat → Int32} (hX : va_X sb L xs s s.heap) (hbl : sb < s.heap.size) (hbA : ¬ A sb) (hL : L ≤ 2048) {h g i0 : Nat} (hi : i0 + 3 < L) (hl : lv_has ls 4 [(0, .ref sb), (1, .ref h), (2, .ref g), (3, .int (nI i0))]) {wc wm ro : va_W} (hw : xW D (xT3 cI cZ cV) A s.heap H locs (wc ++ (wm ++ ro)) s)
    {d1 d2 mc ms : Nat} (hd : d1 ≤ 5 ∧ d2 ≤ 4 ∧ mc ≤ 3 ∧ ms ≤ 28) (hcs : cells + 3 ≤ 600000 ∧ slots + 28 ≤ 7302250) {qE qM : Nat} {fE fM : List Value} (hE : (wc ++ (wm ++ ro))[qE]? = some (h, .inr (5, fE))) (hM : (wm ++ ro)[qM]? = some (g, .inr (6, fM)))
    {Pc Pm : Int32 → va_W → Prop} (hc : XI l yEV_destroy cEV_destroy 4 (some .int) D (xT3 cI cZ cV) d1 mc ms [.ref h, .int (xs (i0 + 1))] wc Pc) (hm : XI l yMO_destroy cMO_destroy 3 (some .int) D (xT3 cI cZ cV) d2 0 0 [.ref g, .int (xs (i0 + 1))] wm Pm)
    (kk : ∀ (r1 : Int32) (u1 : va_W) (r2 : Int32) (u2 : va_W) (H : Heap) (locs : List Loc) (ls : Array Slot), Pc r1 u1 → Pm r2 u2 → xW D (xT3 cI cZ cV) A s.heap H locs (u2 ++ (u1 ++ ro)) s → lv_has ls 4 [(0, .ref sb), (1, .ref h), (2, .ref g), (3, .int (nI i0))] → r1 = r2 ∧ W p l e room_1 s m args below meth c H locs (cells + 3) (slots + 28) Q (F0 m 582 ls [])) :
    W p l e room_1 s m args below meth c H locs cells slots Q (F0 m 206 ls []) := by
  obtain ⟨hx, hb, hml, hown, hts⟩ := id S
  refine lv_aload_n hx hb dLA_law_206 rfl (lv_at hl 1 rfl) ?_
  refine lv_aload_n hx hb dLA_law_207 rfl (lv_at hl 0 rfl) ?_
  refine lv_iload_n hx hb dLA_law_208 rfl (lv_at hl 3 rfl) ?_
  refine lv_iconst (v := 1) hx hb dLA_law_209 (by decide) ?_
  refine lv_iadd hx hb dLA_law_210 ?_
  refine x_sld S hw hX hbl hbA (i0 + 1) (nI_add i0 1) (by omega) hL dLA_law_211 ?_
  refine x_calliP hw (x_runVP (n := 1) (rest := []) (As := [.int (xs (i0 + 1))]) (N := 8) (T := TEV) S hw (hc _) xh_1_217 xh_1_214 xh_1_215 xh_1_216 xh_1_1 (by decide +kernel) ⟨by show _ ≤ 8; omega, by show _ ≤ 274; omega⟩ rfl hE rfl hl.1 rfl (Nat.le_of_ble_eq_true rfl) dLA_law_212 ⟨by show _ ≤ 600000; omega, by show _ ≤ 7302250; omega⟩) (fun r1 u1 H locs hr1 hw => ?_)
  have hw := x_perm (List.perm_append_comm_assoc u1 wm ro) hw
  obtain ⟨qM2, fM2, hM2⟩ : ∃ (q : Nat) (f : List Value), (wm ++ (u1 ++ ro))[q]? = some (g, .inr (6, f)) := by
    obtain ⟨q, hq⟩ := List.getElem?_of_mem ((List.perm_append_comm_assoc u1 wm ro).mem_iff.mp (List.mem_append_right _ (List.mem_of_getElem? hM)))
    exact ⟨q, _, hq⟩
  refine lv_aload_n hx hb dLA_law_215 rfl (lv_at hl 2 rfl) ?_
  refine lv_aload_n hx hb dLA_law_216 rfl (lv_at hl 0 rfl) ?_
  refine lv_iload_n hx hb dLA_law_217 rfl (lv_at hl 3 rfl) ?_
  refine lv_iconst (v := 1) hx hb dLA_law_218 (by decide) ?_
  refine lv_iadd hx hb dLA_law_219 ?_
  refine x_sld S hw hX hbl hbA (i0 + 1) (nI_add i0 1) (by omega) hL dLA_law_220 ?_
  refine x_calliP hw (x_runVP (n := 1) (rest := [.int r1]) (As := [.int (xs (i0 + 1))]) (N := 23) (T := TMO) S hw (hm _) xh_3_15 xh_3_12 xh_3_13 xh_3_14 xh_1_6 (by decide +kernel) ⟨by show _ ≤ 8; omega, by show _ ≤ 274; omega⟩ rfl hM2 rfl hl.1 rfl (Nat.le_of_ble_eq_true rfl) dLA_law_221 ⟨by show _ ≤ 600000; omega, by show _ ≤ 7302250; omega⟩) (fun r2 u2 H locs hr2 hw => ?_)
  obtain ⟨hrr, hW⟩ := kk r1 u1 r2 u2 H locs ls hr1 hr2 hw hl
  refine lv_icmp_eq (tgt := 582) hx hb dLA_law_224 (by decide) (fun _ => ?_) (fun h9 => absurd hrr h9)
  exact W.widen (by omega) (by omega) hW

set_option maxHeartbeats 4000000 in
set_option maxRecDepth 100000 in
theorem o_split {p : Program} {l : Launch} {e : Env} {s : State} {m : MethodId} {args : Array Value} {below : List Frame} {meth : Method} {c : Code} {Q : State → Prop} {D : va_G} {A : Nat → Prop} {cI cZ cV : ClassId} {H : Heap} {locs : List Loc} {ls : Array Slot} {cells slots : Nat} (S : CallFix p m c code 4 s args xAll "EscrowedVersionsLaw") {sb L : Nat} {xs : Nat → Int32} (hX : va_X sb L xs s s.heap) (hbl : sb < s.heap.size) (hbA : ¬ A sb) (hL : L ≤ 2048) {h g i0 : Nat} (hi : i0 + 3 < L) (hl : lv_has ls 4 [(0, .ref sb), (1, .ref h), (2, .ref g), (3, .int (nI i0))]) {wc wm ro : va_W} (hw : xW D (xT3 cI cZ cV) A s.heap H locs (wc ++ (wm ++ ro)) s)
    {d1 d2 mc ms : Nat} (hd : d1 ≤ 5 ∧ d2 ≤ 4 ∧ mc ≤ 3 ∧ ms ≤ 28) (hcs : cells + 3 ≤ 600000 ∧ slots + 28 ≤ 7302250) {qE qM : Nat} {fE fM : List Value} (hE : (wc ++ (wm ++ ro))[qE]? = some (h, .inr (5, fE))) (hM : (wm ++ ro)[qM]? = some (g, .inr (6, fM)))
    {Pc Pm : Int32 → va_W → Prop} (hc : XI l yEV_split cEV_split 5 (some .int) D (xT3 cI cZ cV) d1 mc ms [.ref h, .int (xs (i0 + 1)), .int (xs (i0 + 2)), .int (xs (i0 + 3))] wc Pc) (hm : XI l yMO_split cMO_split 8 (some .int) D (xT3 cI cZ cV) d2 0 0 [.ref g, .int (xs (i0 + 1)), .int (xs (i0 + 2)), .int (xs (i0 + 3))] wm Pm)
    (kk : ∀ (r1 : Int32) (u1 : va_W) (r2 : Int32) (u2 : va_W) (H : Heap) (locs : List Loc) (ls : Array Slot), Pc r1 u1 → Pm r2 u2 → xW D (xT3 cI cZ cV) A s.heap H locs (u2 ++ (u1 ++ ro)) s → lv_has ls 4 [(0, .ref sb), (1, .ref h), (2, .ref g), (3, .int (nI i0))] → r1 = r2 ∧ W p l e room_1 s m args below meth c H locs (cells + 3) (slots + 28) Q (F0 m 582 ls [])) :
    W p l e room_1 s m args below meth c H locs cells slots Q (F0 m 229 ls []) := by
  obtain ⟨hx, hb, hml, hown, hts⟩ := id S
  refine lv_aload_n hx hb dLA_law_229 rfl (lv_at hl 1 rfl) ?_
  refine lv_aload_n hx hb dLA_law_230 rfl (lv_at hl 0 rfl) ?_
  refine lv_iload_n hx hb dLA_law_231 rfl (lv_at hl 3 rfl) ?_
  refine lv_iconst (v := 1) hx hb dLA_law_232 (by decide) ?_
  refine lv_iadd hx hb dLA_law_233 ?_
  refine x_sld S hw hX hbl hbA (i0 + 1) (nI_add i0 1) (by omega) hL dLA_law_234 ?_
  refine lv_aload_n hx hb dLA_law_235 rfl (lv_at hl 0 rfl) ?_
  refine lv_iload_n hx hb dLA_law_236 rfl (lv_at hl 3 rfl) ?_
  refine lv_iconst (v := 2) hx hb dLA_law_237 (by decide) ?_
  refine lv_iadd hx hb dLA_law_238 ?_
  refine x_sld S hw hX hbl hbA (i0 + 2) (nI_add i0 2) (by omega) hL dLA_law_239 ?_
  refine lv_aload_n hx hb dLA_law_240 rfl (lv_at hl 0 rfl) ?_
  refine lv_iload_n hx hb dLA_law_241 rfl (lv_at hl 3 rfl) ?_
  refine lv_iconst (v := 3) hx hb dLA_law_242 (by decide) ?_
  refine lv_iadd hx hb dLA_law_243 ?_
  refine x_sld S hw hX hbl hbA (i0 + 3) (nI_add i0 3) (by omega) hL dLA_law_244 ?_
  refine x_calliP hw (x_runVP (n := 3) (rest := []) (As := [.int (xs (i0 + 1)), .int (xs (i0 + 2)), .int (xs (i0 + 3))]) (N := 8) (T := TEV) S hw (hc _) xh_1_236 xh_1_233 xh_1_234 xh_1_235 xh_1_1 (by decide +kernel) ⟨by show _ ≤ 8; omega, by show _ ≤ 274; omega⟩ rfl hE rfl hl.1 rfl (Nat.le_of_ble_eq_true rfl) dLA_law_245 ⟨by show _ ≤ 600000; omega, by show _ ≤ 7302250; omega⟩) (fun r1 u1 H locs hr1 hw => ?_)
  have hw := x_perm (List.perm_append_comm_assoc u1 wm ro) hw
  obtain ⟨qM2, fM2, hM2⟩ : ∃ (q : Nat) (f : List Value), (wm ++ (u1 ++ ro))[q]? = some (g, .inr (6, f)) := by
    obtain ⟨q, hq⟩ := List.getElem?_of_mem ((List.perm_append_comm_assoc u1 wm ro).mem_iff.mp (List.mem_append_right _ (List.mem_of_getElem? hM)))
    exact ⟨q, _, hq⟩
  refine lv_aload_n hx hb dLA_law_248 rfl (lv_at hl 2 rfl) ?_
  refine lv_aload_n hx hb dLA_law_249 rfl (lv_at hl 0 rfl) ?_
  refine lv_iload_n hx hb dLA_law_250 rfl (lv_at hl 3 rfl) ?_
  refine lv_iconst (v := 1) hx hb dLA_law_251 (by decide) ?_
  refine lv_iadd hx hb dLA_law_252 ?_
  refine x_sld S hw hX hbl hbA (i0 + 1) (nI_add i0 1) (by omega) hL dLA_law_253 ?_
  refine lv_aload_n hx hb dLA_law_254 rfl (lv_at hl 0 rfl) ?_
  refine lv_iload_n hx hb dLA_law_255 rfl (lv_at hl 3 rfl) ?_
  refine lv_iconst (v := 2) hx hb dLA_law_256 (by decide) ?_
  refine lv_iadd hx hb dLA_law_257 ?_
  refine x_sld S hw hX hbl hbA (i0 + 2) (nI_add i0 2) (by omega) hL dLA_law_258 ?_
  refine lv_aload_n hx hb dLA_law_259 rfl (lv_at hl 0 rfl) ?_
  refine lv_iload_n hx hb dLA_law_260 rfl (lv_at hl 3 rfl) ?_
  refine lv_iconst (v := 3) hx hb dLA_law_261 (by decide) ?_
  refine lv_iadd hx hb dLA_law_262 ?_
  refine x_sld S hw hX hbl hbA (i0 + 3) (nI_add i0 3) (by omega) hL dLA_law_263 ?_
  refine x_calliP hw (x_runVP (n := 3) (rest := [.int r1]) (As := [.int (xs (i0 + 1)), .int (xs (i0 + 2)), .int (xs (i0 + 3))]) (N := 23) (T := TMO) S hw (hm _) xh_3_27 xh_3_24 xh_3_25 xh_3_26 xh_1_6 (by decide +kernel) ⟨by show _ ≤ 8; omega, by show _ ≤ 274; omega⟩ rfl hM2 rfl hl.1 rfl (Nat.le_of_ble_eq_true rfl) dLA_law_264 ⟨by show _ ≤ 600000; omega, by show _ ≤ 7302250; omega⟩) (fun r2 u2 H locs hr2 hw => ?_)
  obtain ⟨hrr, hW⟩ := kk r1 u1 r2 u2 H locs ls hr1 hr2 hw hl
  refine lv_icmp_eq (tgt := 582) hx hb dLA_law_267 (by decide) (fun _ => ?_) (fun h9 => absurd hrr h9)
  exact W.widen (by omega) (by omega) hW

set_option maxHeartbeats 4000000 in
set_option maxRecDepth 100000 in
theorem o_share {p : Program} {l : Launch} {e : Env} {s : State} {m : MethodId} {args : Array Value} {below : List Frame} {meth : Method} {c : Code} {Q : State → Prop} {D : va_G} {A : Nat → Prop} {cI cZ cV : ClassId} {H : Heap} {locs : List Loc} {ls : Array Slot} {cells slots : Nat} (S : CallFix p m c code 4 s args xAll "EscrowedVersionsLaw") {sb L : Nat} {xs : Nat → Int32} (hX : va_X sb L xs s s.heap) (hbl : sb < s.heap.size) (hbA : ¬ A sb) (hL : L ≤ 2048) {h g i0 : Nat} (hi : i0 + 3 < L) (hl : lv_has ls 4 [(0, .ref sb), (1, .ref h), (2, .ref g), (3, .int (nI i0))]) {wc wm ro : va_W} (hw : xW D (xT3 cI cZ cV) A s.heap H locs (wc ++ (wm ++ ro)) s)
    {d1 d2 mc ms : Nat} (hd : d1 ≤ 5 ∧ d2 ≤ 4 ∧ mc ≤ 3 ∧ ms ≤ 28) (hcs : cells + 3 ≤ 600000 ∧ slots + 28 ≤ 7302250) {qE qM : Nat} {fE fM : List Value} (hE : (wc ++ (wm ++ ro))[qE]? = some (h, .inr (5, fE))) (hM : (wm ++ ro)[qM]? = some (g, .inr (6, fM)))
    {Pc Pm : Int32 → va_W → Prop} (hc : XI l yEV_share cEV_share 2 (some .int) D (xT3 cI cZ cV) d1 mc ms [.ref h, .int (xs (i0 + 1))] wc Pc) (hm : XI l yMO_share cMO_share 2 (some .int) D (xT3 cI cZ cV) d2 0 0 [.ref g, .int (xs (i0 + 1))] wm Pm)
    (kk : ∀ (r1 : Int32) (u1 : va_W) (r2 : Int32) (u2 : va_W) (H : Heap) (locs : List Loc) (ls : Array Slot), Pc r1 u1 → Pm r2 u2 → xW D (xT3 cI cZ cV) A s.heap H locs (u2 ++ (u1 ++ ro)) s → lv_has ls 4 [(0, .ref sb), (1, .ref h), (2, .ref g), (3, .int (nI i0))] → r1 = r2 ∧ W p l e room_1 s m args below meth c H locs (cells + 3) (slots + 28) Q (F0 m 582 ls [])) :
    W p l e room_1 s m args below meth c H locs cells slots Q (F0 m 272 ls []) := by
  obtain ⟨hx, hb, hml, hown, hts⟩ := id S
  refine lv_aload_n hx hb dLA_law_272 rfl (lv_at hl 1 rfl) ?_
  refine lv_aload_n hx hb dLA_law_273 rfl (lv_at hl 0 rfl) ?_
  refine lv_iload_n hx hb dLA_law_274 rfl (lv_at hl 3 rfl) ?_
  refine lv_iconst (v := 1) hx hb dLA_law_275 (by decide) ?_
  refine lv_iadd hx hb dLA_law_276 ?_
  refine x_sld S hw hX hbl hbA (i0 + 1) (nI_add i0 1) (by omega) hL dLA_law_277 ?_
  refine x_calliP hw (x_runVP (n := 1) (rest := []) (As := [.int (xs (i0 + 1))]) (N := 8) (T := TEV) S hw (hc _) xh_2_26 xh_2_23 xh_2_24 xh_2_25 xh_1_1 (by decide +kernel) ⟨by show _ ≤ 8; omega, by show _ ≤ 274; omega⟩ rfl hE rfl hl.1 rfl (Nat.le_of_ble_eq_true rfl) dLA_law_278 ⟨by show _ ≤ 600000; omega, by show _ ≤ 7302250; omega⟩) (fun r1 u1 H locs hr1 hw => ?_)
  have hw := x_perm (List.perm_append_comm_assoc u1 wm ro) hw
  obtain ⟨qM2, fM2, hM2⟩ : ∃ (q : Nat) (f : List Value), (wm ++ (u1 ++ ro))[q]? = some (g, .inr (6, f)) := by
    obtain ⟨q, hq⟩ := List.getElem?_of_mem ((List.perm_append_comm_assoc u1 wm ro).mem_iff.mp (List.mem_append_right _ (List.mem_of_getElem? hM)))
    exact ⟨q, _, hq⟩
  refine lv_aload_n hx hb dLA_law_281 rfl (lv_at hl 2 rfl) ?_
  refine lv_aload_n hx hb dLA_law_282 rfl (lv_at hl 0 rfl) ?_
  refine lv_iload_n hx hb dLA_law_283 rfl (lv_at hl 3 rfl) ?_
  refine lv_iconst (v := 1) hx hb dLA_law_284 (by decide) ?_
  refine lv_iadd hx hb dLA_law_285 ?_
  refine x_sld S hw hX hbl hbA (i0 + 1) (nI_add i0 1) (by omega) hL dLA_law_286 ?_
  refine x_calliP hw (x_runVP (n := 1) (rest := [.int r1]) (As := [.int (xs (i0 + 1))]) (N := 23) (T := TMO) S hw (hm _) xh_3_34 xh_3_31 xh_3_32 xh_3_33 xh_1_6 (by decide +kernel) ⟨by show _ ≤ 8; omega, by show _ ≤ 274; omega⟩ rfl hM2 rfl hl.1 rfl (Nat.le_of_ble_eq_true rfl) dLA_law_287 ⟨by show _ ≤ 600000; omega, by show _ ≤ 7302250; omega⟩) (fun r2 u2 H locs hr2 hw => ?_)
  obtain ⟨hrr, hW⟩ := kk r1 u1 r2 u2 H locs ls hr1 hr2 hw hl
  refine lv_icmp_eq (tgt := 582) hx hb dLA_law_290 (by decide) (fun _ => ?_) (fun h9 => absurd hrr h9)
  exact W.widen (by omega) (by omega) hW

set_option maxHeartbeats 4000000 in
set_option maxRecDepth 100000 in
theorem o_lock {p : Program} {l : Launch} {e : Env} {s : State} {m : MethodId} {args : Array Value} {below : List Frame} {meth : Method} {c : Code} {Q : State → Prop} {D : va_G} {A : Nat → Prop} {cI cZ cV : ClassId} {H : Heap} {locs : List Loc} {ls : Array Slot} {cells slots : Nat} (S : CallFix p m c code 4 s args xAll "EscrowedVersionsLaw") {sb L : Nat} {xs : Nat → Int32} (hX : va_X sb L xs s s.heap) (hbl : sb < s.heap.size) (hbA : ¬ A sb) (hL : L ≤ 2048) {h g i0 : Nat} (hi : i0 + 3 < L) (hl : lv_has ls 4 [(0, .ref sb), (1, .ref h), (2, .ref g), (3, .int (nI i0))]) {wc wm ro : va_W} (hw : xW D (xT3 cI cZ cV) A s.heap H locs (wc ++ (wm ++ ro)) s)
    {d1 d2 mc ms : Nat} (hd : d1 ≤ 5 ∧ d2 ≤ 4 ∧ mc ≤ 3 ∧ ms ≤ 28) (hcs : cells + 3 ≤ 600000 ∧ slots + 28 ≤ 7302250) {qE qM : Nat} {fE fM : List Value} (hE : (wc ++ (wm ++ ro))[qE]? = some (h, .inr (5, fE))) (hM : (wm ++ ro)[qM]? = some (g, .inr (6, fM)))
    {Pc Pm : Int32 → va_W → Prop} (hc : XI l yEV_lock cEV_lock 3 (some .int) D (xT3 cI cZ cV) d1 mc ms [.ref h, .int (xs (i0 + 1))] wc Pc) (hm : XI l yMO_lock cMO_lock 2 (some .int) D (xT3 cI cZ cV) d2 0 0 [.ref g, .int (xs (i0 + 1))] wm Pm)
    (kk : ∀ (r1 : Int32) (u1 : va_W) (r2 : Int32) (u2 : va_W) (H : Heap) (locs : List Loc) (ls : Array Slot), Pc r1 u1 → Pm r2 u2 → xW D (xT3 cI cZ cV) A s.heap H locs (u2 ++ (u1 ++ ro)) s → lv_has ls 4 [(0, .ref sb), (1, .ref h), (2, .ref g), (3, .int (nI i0))] → r1 = r2 ∧ W p l e room_1 s m args below meth c H locs (cells + 3) (slots + 28) Q (F0 m 582 ls [])) :
    W p l e room_1 s m args below meth c H locs cells slots Q (F0 m 295 ls []) := by
  obtain ⟨hx, hb, hml, hown, hts⟩ := id S
  refine lv_aload_n hx hb dLA_law_295 rfl (lv_at hl 1 rfl) ?_
  refine lv_aload_n hx hb dLA_law_296 rfl (lv_at hl 0 rfl) ?_
  refine lv_iload_n hx hb dLA_law_297 rfl (lv_at hl 3 rfl) ?_
  refine lv_iconst (v := 1) hx hb dLA_law_298 (by decide) ?_
  refine lv_iadd hx hb dLA_law_299 ?_
  refine x_sld S hw hX hbl hbA (i0 + 1) (nI_add i0 1) (by omega) hL dLA_law_300 ?_
  refine x_calliP hw (x_runVP (n := 1) (rest := []) (As := [.int (xs (i0 + 1))]) (N := 8) (T := TEV) S hw (hc _) xh_2_30 xh_2_27 xh_2_28 xh_2_29 xh_1_1 (by decide +kernel) ⟨by show _ ≤ 8; omega, by show _ ≤ 274; omega⟩ rfl hE rfl hl.1 rfl (Nat.le_of_ble_eq_true rfl) dLA_law_301 ⟨by show _ ≤ 600000; omega, by show _ ≤ 7302250; omega⟩) (fun r1 u1 H locs hr1 hw => ?_)
  have hw := x_perm (List.perm_append_comm_assoc u1 wm ro) hw
  obtain ⟨qM2, fM2, hM2⟩ : ∃ (q : Nat) (f : List Value), (wm ++ (u1 ++ ro))[q]? = some (g, .inr (6, f)) := by
    obtain ⟨q, hq⟩ := List.getElem?_of_mem ((List.perm_append_comm_assoc u1 wm ro).mem_iff.mp (List.mem_append_right _ (List.mem_of_getElem? hM)))
    exact ⟨q, _, hq⟩
  refine lv_aload_n hx hb dLA_law_304 rfl (lv_at hl 2 rfl) ?_
  refine lv_aload_n hx hb dLA_law_305 rfl (lv_at hl 0 rfl) ?_
  refine lv_iload_n hx hb dLA_law_306 rfl (lv_at hl 3 rfl) ?_
  refine lv_iconst (v := 1) hx hb dLA_law_307 (by decide) ?_
  refine lv_iadd hx hb dLA_law_308 ?_
  refine x_sld S hw hX hbl hbA (i0 + 1) (nI_add i0 1) (by omega) hL dLA_law_309 ?_
  refine x_calliP hw (x_runVP (n := 1) (rest := [.int r1]) (As := [.int (xs (i0 + 1))]) (N := 23) (T := TMO) S hw (hm _) xh_3_38 xh_3_35 xh_3_36 xh_3_37 xh_1_6 (by decide +kernel) ⟨by show _ ≤ 8; omega, by show _ ≤ 274; omega⟩ rfl hM2 rfl hl.1 rfl (Nat.le_of_ble_eq_true rfl) dLA_law_310 ⟨by show _ ≤ 600000; omega, by show _ ≤ 7302250; omega⟩) (fun r2 u2 H locs hr2 hw => ?_)
  obtain ⟨hrr, hW⟩ := kk r1 u1 r2 u2 H locs ls hr1 hr2 hw hl
  refine lv_icmp_eq (tgt := 582) hx hb dLA_law_313 (by decide) (fun _ => ?_) (fun h9 => absurd hrr h9)
  exact W.widen (by omega) (by omega) hW

set_option maxHeartbeats 4000000 in
set_option maxRecDepth 100000 in
theorem o_give {p : Program} {l : Launch} {e : Env} {s : State} {m : MethodId} {args : Array Value} {below : List Frame} {meth : Method} {c : Code} {Q : State → Prop} {D : va_G} {A : Nat → Prop} {cI cZ cV : ClassId} {H : Heap} {locs : List Loc} {ls : Array Slot} {cells slots : Nat} (S : CallFix p m c code 4 s args xAll "EscrowedVersionsLaw") {sb L : Nat} {xs : Nat → Int32} (hX : va_X sb L xs s s.heap) (hbl : sb < s.heap.size) (hbA : ¬ A sb) (hL : L ≤ 2048) {h g i0 : Nat} (hi : i0 + 3 < L) (hl : lv_has ls 4 [(0, .ref sb), (1, .ref h), (2, .ref g), (3, .int (nI i0))]) {wc wm ro : va_W} (hw : xW D (xT3 cI cZ cV) A s.heap H locs (wc ++ (wm ++ ro)) s)
    {d1 d2 mc ms : Nat} (hd : d1 ≤ 5 ∧ d2 ≤ 4 ∧ mc ≤ 3 ∧ ms ≤ 28) (hcs : cells + 3 ≤ 600000 ∧ slots + 28 ≤ 7302250) {qE qM : Nat} {fE fM : List Value} (hE : (wc ++ (wm ++ ro))[qE]? = some (h, .inr (5, fE))) (hM : (wm ++ ro)[qM]? = some (g, .inr (6, fM)))
    {Pc Pm : Int32 → va_W → Prop} (hc : XI l yEV_give cEV_give 6 (some .int) D (xT3 cI cZ cV) d1 mc ms [.ref h, .int (xs (i0 + 1)), .int (xs (i0 + 2)), .int (xs (i0 + 3))] wc Pc) (hm : XI l yMO_give cMO_give 5 (some .int) D (xT3 cI cZ cV) d2 0 0 [.ref g, .int (xs (i0 + 1)), .int (xs (i0 + 2)), .int (xs (i0 + 3))] wm Pm)
    (kk : ∀ (r1 : Int32) (u1 : va_W) (r2 : Int32) (u2 : va_W) (H : Heap) (locs : List Loc) (ls : Array Slot), Pc r1 u1 → Pm r2 u2 → xW D (xT3 cI cZ cV) A s.heap H locs (u2 ++ (u1 ++ ro)) s → lv_has ls 4 [(0, .ref sb), (1, .ref h), (2, .ref g), (3, .int (nI i0))] → r1 = r2 ∧ W p l e room_1 s m args below meth c H locs (cells + 3) (slots + 28) Q (F0 m 582 ls [])) :
    W p l e room_1 s m args below meth c H locs cells slots Q (F0 m 318 ls []) := by
  obtain ⟨hx, hb, hml, hown, hts⟩ := id S
  refine lv_aload_n hx hb dLA_law_318 rfl (lv_at hl 1 rfl) ?_
  refine lv_aload_n hx hb dLA_law_319 rfl (lv_at hl 0 rfl) ?_
  refine lv_iload_n hx hb dLA_law_320 rfl (lv_at hl 3 rfl) ?_
  refine lv_iconst (v := 1) hx hb dLA_law_321 (by decide) ?_
  refine lv_iadd hx hb dLA_law_322 ?_
  refine x_sld S hw hX hbl hbA (i0 + 1) (nI_add i0 1) (by omega) hL dLA_law_323 ?_
  refine lv_aload_n hx hb dLA_law_324 rfl (lv_at hl 0 rfl) ?_
  refine lv_iload_n hx hb dLA_law_325 rfl (lv_at hl 3 rfl) ?_
  refine lv_iconst (v := 2) hx hb dLA_law_326 (by decide) ?_
  refine lv_iadd hx hb dLA_law_327 ?_
  refine x_sld S hw hX hbl hbA (i0 + 2) (nI_add i0 2) (by omega) hL dLA_law_328 ?_
  refine lv_aload_n hx hb dLA_law_329 rfl (lv_at hl 0 rfl) ?_
  refine lv_iload_n hx hb dLA_law_330 rfl (lv_at hl 3 rfl) ?_
  refine lv_iconst (v := 3) hx hb dLA_law_331 (by decide) ?_
  refine lv_iadd hx hb dLA_law_332 ?_
  refine x_sld S hw hX hbl hbA (i0 + 3) (nI_add i0 3) (by omega) hL dLA_law_333 ?_
  refine x_calliP hw (x_runVP (n := 3) (rest := []) (As := [.int (xs (i0 + 1)), .int (xs (i0 + 2)), .int (xs (i0 + 3))]) (N := 8) (T := TEV) S hw (hc _) xh_2_38 xh_2_35 xh_2_36 xh_2_37 xh_1_1 (by decide +kernel) ⟨by show _ ≤ 8; omega, by show _ ≤ 274; omega⟩ rfl hE rfl hl.1 rfl (Nat.le_of_ble_eq_true rfl) dLA_law_334 ⟨by show _ ≤ 600000; omega, by show _ ≤ 7302250; omega⟩) (fun r1 u1 H locs hr1 hw => ?_)
  have hw := x_perm (List.perm_append_comm_assoc u1 wm ro) hw
  obtain ⟨qM2, fM2, hM2⟩ : ∃ (q : Nat) (f : List Value), (wm ++ (u1 ++ ro))[q]? = some (g, .inr (6, f)) := by
    obtain ⟨q, hq⟩ := List.getElem?_of_mem ((List.perm_append_comm_assoc u1 wm ro).mem_iff.mp (List.mem_append_right _ (List.mem_of_getElem? hM)))
    exact ⟨q, _, hq⟩
  refine lv_aload_n hx hb dLA_law_337 rfl (lv_at hl 2 rfl) ?_
  refine lv_aload_n hx hb dLA_law_338 rfl (lv_at hl 0 rfl) ?_
  refine lv_iload_n hx hb dLA_law_339 rfl (lv_at hl 3 rfl) ?_
  refine lv_iconst (v := 1) hx hb dLA_law_340 (by decide) ?_
  refine lv_iadd hx hb dLA_law_341 ?_
  refine x_sld S hw hX hbl hbA (i0 + 1) (nI_add i0 1) (by omega) hL dLA_law_342 ?_
  refine lv_aload_n hx hb dLA_law_343 rfl (lv_at hl 0 rfl) ?_
  refine lv_iload_n hx hb dLA_law_344 rfl (lv_at hl 3 rfl) ?_
  refine lv_iconst (v := 2) hx hb dLA_law_345 (by decide) ?_
  refine lv_iadd hx hb dLA_law_346 ?_
  refine x_sld S hw hX hbl hbA (i0 + 2) (nI_add i0 2) (by omega) hL dLA_law_347 ?_
  refine lv_aload_n hx hb dLA_law_348 rfl (lv_at hl 0 rfl) ?_
  refine lv_iload_n hx hb dLA_law_349 rfl (lv_at hl 3 rfl) ?_
  refine lv_iconst (v := 3) hx hb dLA_law_350 (by decide) ?_
  refine lv_iadd hx hb dLA_law_351 ?_
  refine x_sld S hw hX hbl hbA (i0 + 3) (nI_add i0 3) (by omega) hL dLA_law_352 ?_
  refine x_calliP hw (x_runVP (n := 3) (rest := [.int r1]) (As := [.int (xs (i0 + 1)), .int (xs (i0 + 2)), .int (xs (i0 + 3))]) (N := 23) (T := TMO) S hw (hm _) xh_3_42 xh_3_39 xh_3_40 xh_3_41 xh_1_6 (by decide +kernel) ⟨by show _ ≤ 8; omega, by show _ ≤ 274; omega⟩ rfl hM2 rfl hl.1 rfl (Nat.le_of_ble_eq_true rfl) dLA_law_353 ⟨by show _ ≤ 600000; omega, by show _ ≤ 7302250; omega⟩) (fun r2 u2 H locs hr2 hw => ?_)
  obtain ⟨hrr, hW⟩ := kk r1 u1 r2 u2 H locs ls hr1 hr2 hw hl
  refine lv_icmp_eq (tgt := 582) hx hb dLA_law_356 (by decide) (fun _ => ?_) (fun h9 => absurd hrr h9)
  exact W.widen (by omega) (by omega) hW

set_option maxHeartbeats 4000000 in
set_option maxRecDepth 100000 in
theorem o_wrap {p : Program} {l : Launch} {e : Env} {s : State} {m : MethodId} {args : Array Value} {below : List Frame} {meth : Method} {c : Code} {Q : State → Prop} {D : va_G} {A : Nat → Prop} {cI cZ cV : ClassId} {H : Heap} {locs : List Loc} {ls : Array Slot} {cells slots : Nat} (S : CallFix p m c code 4 s args xAll "EscrowedVersionsLaw") {sb L : Nat} {xs : Nat → Int32} (hX : va_X sb L xs s s.heap) (hbl : sb < s.heap.size) (hbA : ¬ A sb) (hL : L ≤ 2048) {h g i0 : Nat} (hi : i0 + 3 < L) (hl : lv_has ls 4 [(0, .ref sb), (1, .ref h), (2, .ref g), (3, .int (nI i0))]) {wc wm ro : va_W} (hw : xW D (xT3 cI cZ cV) A s.heap H locs (wc ++ (wm ++ ro)) s)
    {d1 d2 mc ms : Nat} (hd : d1 ≤ 5 ∧ d2 ≤ 4 ∧ mc ≤ 3 ∧ ms ≤ 28) (hcs : cells + 3 ≤ 600000 ∧ slots + 28 ≤ 7302250) {qE qM : Nat} {fE fM : List Value} (hE : (wc ++ (wm ++ ro))[qE]? = some (h, .inr (5, fE))) (hM : (wm ++ ro)[qM]? = some (g, .inr (6, fM)))
    {Pc Pm : Int32 → va_W → Prop} (hc : XI l yEV_wrap cEV_wrap 3 (some .int) D (xT3 cI cZ cV) d1 mc ms [.ref h, .int (xs (i0 + 1))] wc Pc) (hm : XI l yMO_wrap cMO_wrap 6 (some .int) D (xT3 cI cZ cV) d2 0 0 [.ref g, .int (xs (i0 + 1))] wm Pm)
    (kk : ∀ (r1 : Int32) (u1 : va_W) (r2 : Int32) (u2 : va_W) (H : Heap) (locs : List Loc) (ls : Array Slot), Pc r1 u1 → Pm r2 u2 → xW D (xT3 cI cZ cV) A s.heap H locs (u2 ++ (u1 ++ ro)) s → lv_has ls 4 [(0, .ref sb), (1, .ref h), (2, .ref g), (3, .int (nI i0))] → r1 = r2 ∧ W p l e room_1 s m args below meth c H locs (cells + 3) (slots + 28) Q (F0 m 582 ls [])) :
    W p l e room_1 s m args below meth c H locs cells slots Q (F0 m 361 ls []) := by
  obtain ⟨hx, hb, hml, hown, hts⟩ := id S
  refine lv_aload_n hx hb dLA_law_361 rfl (lv_at hl 1 rfl) ?_
  refine lv_aload_n hx hb dLA_law_362 rfl (lv_at hl 0 rfl) ?_
  refine lv_iload_n hx hb dLA_law_363 rfl (lv_at hl 3 rfl) ?_
  refine lv_iconst (v := 1) hx hb dLA_law_364 (by decide) ?_
  refine lv_iadd hx hb dLA_law_365 ?_
  refine x_sld S hw hX hbl hbA (i0 + 1) (nI_add i0 1) (by omega) hL dLA_law_366 ?_
  refine x_calliP hw (x_runVP (n := 1) (rest := []) (As := [.int (xs (i0 + 1))]) (N := 8) (T := TEV) S hw (hc _) xh_2_75 xh_2_72 xh_2_73 xh_2_74 xh_1_1 (by decide +kernel) ⟨by show _ ≤ 8; omega, by show _ ≤ 274; omega⟩ rfl hE rfl hl.1 rfl (Nat.le_of_ble_eq_true rfl) dLA_law_367 ⟨by show _ ≤ 600000; omega, by show _ ≤ 7302250; omega⟩) (fun r1 u1 H locs hr1 hw => ?_)
  have hw := x_perm (List.perm_append_comm_assoc u1 wm ro) hw
  obtain ⟨qM2, fM2, hM2⟩ : ∃ (q : Nat) (f : List Value), (wm ++ (u1 ++ ro))[q]? = some (g, .inr (6, f)) := by
    obtain ⟨q, hq⟩ := List.getElem?_of_mem ((List.perm_append_comm_assoc u1 wm ro).mem_iff.mp (List.mem_append_right _ (List.mem_of_getElem? hM)))
    exact ⟨q, _, hq⟩
  refine lv_aload_n hx hb dLA_law_370 rfl (lv_at hl 2 rfl) ?_
  refine lv_aload_n hx hb dLA_law_371 rfl (lv_at hl 0 rfl) ?_
  refine lv_iload_n hx hb dLA_law_372 rfl (lv_at hl 3 rfl) ?_
  refine lv_iconst (v := 1) hx hb dLA_law_373 (by decide) ?_
  refine lv_iadd hx hb dLA_law_374 ?_
  refine x_sld S hw hX hbl hbA (i0 + 1) (nI_add i0 1) (by omega) hL dLA_law_375 ?_
  refine x_calliP hw (x_runVP (n := 1) (rest := [.int r1]) (As := [.int (xs (i0 + 1))]) (N := 23) (T := TMO) S hw (hm _) xh_3_61 xh_3_58 xh_3_59 xh_3_60 xh_1_6 (by decide +kernel) ⟨by show _ ≤ 8; omega, by show _ ≤ 274; omega⟩ rfl hM2 rfl hl.1 rfl (Nat.le_of_ble_eq_true rfl) dLA_law_376 ⟨by show _ ≤ 600000; omega, by show _ ≤ 7302250; omega⟩) (fun r2 u2 H locs hr2 hw => ?_)
  obtain ⟨hrr, hW⟩ := kk r1 u1 r2 u2 H locs ls hr1 hr2 hw hl
  refine lv_icmp_eq (tgt := 582) hx hb dLA_law_379 (by decide) (fun _ => ?_) (fun h9 => absurd hrr h9)
  exact W.widen (by omega) (by omega) hW

set_option maxHeartbeats 4000000 in
set_option maxRecDepth 100000 in
theorem o_unwrap {p : Program} {l : Launch} {e : Env} {s : State} {m : MethodId} {args : Array Value} {below : List Frame} {meth : Method} {c : Code} {Q : State → Prop} {D : va_G} {A : Nat → Prop} {cI cZ cV : ClassId} {H : Heap} {locs : List Loc} {ls : Array Slot} {cells slots : Nat} (S : CallFix p m c code 4 s args xAll "EscrowedVersionsLaw") {sb L : Nat} {xs : Nat → Int32} (hX : va_X sb L xs s s.heap) (hbl : sb < s.heap.size) (hbA : ¬ A sb) (hL : L ≤ 2048) {h g i0 : Nat} (hi : i0 + 3 < L) (hl : lv_has ls 4 [(0, .ref sb), (1, .ref h), (2, .ref g), (3, .int (nI i0))]) {wc wm ro : va_W} (hw : xW D (xT3 cI cZ cV) A s.heap H locs (wc ++ (wm ++ ro)) s)
    {d1 d2 mc ms : Nat} (hd : d1 ≤ 5 ∧ d2 ≤ 4 ∧ mc ≤ 3 ∧ ms ≤ 28) (hcs : cells + 3 ≤ 600000 ∧ slots + 28 ≤ 7302250) {qE qM : Nat} {fE fM : List Value} (hE : (wc ++ (wm ++ ro))[qE]? = some (h, .inr (5, fE))) (hM : (wm ++ ro)[qM]? = some (g, .inr (6, fM)))
    {Pc Pm : Int64 → va_W → Prop} (hc : XL l yEV_unwrap cEV_unwrap 4 (some .long) D (xT3 cI cZ cV) d1 mc ms [.ref h] wc Pc) (hm : XL l yMO_unwrap cMO_unwrap 5 (some .long) D (xT3 cI cZ cV) d2 0 0 [.ref g] wm Pm)
    (kk : ∀ (r1 : Int64) (u1 : va_W) (r2 : Int64) (u2 : va_W) (H : Heap) (locs : List Loc) (ls : Array Slot), Pc r1 u1 → Pm r2 u2 → xW D (xT3 cI cZ cV) A s.heap H locs (u2 ++ (u1 ++ ro)) s → lv_has ls 4 [(0, .ref sb), (1, .ref h), (2, .ref g), (3, .int (nI i0))] → r1 = r2 ∧ W p l e room_1 s m args below meth c H locs (cells + 3) (slots + 28) Q (F0 m 582 ls [])) :
    W p l e room_1 s m args below meth c H locs cells slots Q (F0 m 384 ls []) := by
  obtain ⟨hx, hb, hml, hown, hts⟩ := id S
  refine lv_aload_n hx hb dLA_law_384 rfl (lv_at hl 1 rfl) ?_
  refine x_calllP hw (x_runVP (n := 0) (rest := []) (As := []) (N := 8) (T := TEV) S hw (hc _) xh_2_95 xh_2_92 xh_2_93 xh_2_94 xh_1_1 (by decide +kernel) ⟨by show _ ≤ 8; omega, by show _ ≤ 274; omega⟩ rfl hE rfl hl.1 rfl (Nat.le_of_ble_eq_true rfl) dLA_law_385 ⟨by show _ ≤ 600000; omega, by show _ ≤ 7302250; omega⟩) (fun r1 u1 H locs hr1 hw => ?_)
  have hw := x_perm (List.perm_append_comm_assoc u1 wm ro) hw
  obtain ⟨qM2, fM2, hM2⟩ : ∃ (q : Nat) (f : List Value), (wm ++ (u1 ++ ro))[q]? = some (g, .inr (6, f)) := by
    obtain ⟨q, hq⟩ := List.getElem?_of_mem ((List.perm_append_comm_assoc u1 wm ro).mem_iff.mp (List.mem_append_right _ (List.mem_of_getElem? hM)))
    exact ⟨q, _, hq⟩
  refine lv_aload_n hx hb dLA_law_388 rfl (lv_at hl 2 rfl) ?_
  refine x_calllP hw (x_runVP (n := 0) (rest := [.long r1]) (As := []) (N := 23) (T := TMO) S hw (hm _) xh_3_72 xh_3_69 xh_3_70 xh_3_71 xh_1_6 (by decide +kernel) ⟨by show _ ≤ 8; omega, by show _ ≤ 274; omega⟩ rfl hM2 rfl hl.1 rfl (Nat.le_of_ble_eq_true rfl) dLA_law_389 ⟨by show _ ≤ 600000; omega, by show _ ≤ 7302250; omega⟩) (fun r2 u2 H locs hr2 hw => ?_)
  obtain ⟨hrr, hW⟩ := kk r1 u1 r2 u2 H locs ls hr1 hr2 hw hl
  refine W.lcmp hx hb dLA_law_392 ?_
  refine x_topi (y := 0) (by rw [hrr]; exact lg_self r2) ?_
  refine lv_if_eq (tgt := 582) hx hb dLA_law_393 (by decide) (fun _ => ?_) (fun h9 => absurd rfl h9)
  exact W.widen (by omega) (by omega) hW

set_option maxHeartbeats 4000000 in
set_option maxRecDepth 100000 in
theorem o_set {p : Program} {l : Launch} {e : Env} {s : State} {m : MethodId} {args : Array Value} {below : List Frame} {meth : Method} {c : Code} {Q : State → Prop} {D : va_G} {A : Nat → Prop} {cI cZ cV : ClassId} {H : Heap} {locs : List Loc} {ls : Array Slot} {cells slots : Nat} (S : CallFix p m c code 4 s args xAll "EscrowedVersionsLaw") {sb L : Nat} {xs : Nat → Int32} (hX : va_X sb L xs s s.heap) (hbl : sb < s.heap.size) (hbA : ¬ A sb) (hL : L ≤ 2048) {h g i0 : Nat} (hi : i0 + 3 < L) (hl : lv_has ls 4 [(0, .ref sb), (1, .ref h), (2, .ref g), (3, .int (nI i0))]) {wc wm ro : va_W} (hw : xW D (xT3 cI cZ cV) A s.heap H locs (wc ++ (wm ++ ro)) s)
    {d1 d2 mc ms : Nat} (hd : d1 ≤ 5 ∧ d2 ≤ 4 ∧ mc ≤ 3 ∧ ms ≤ 28) (hcs : cells + 3 ≤ 600000 ∧ slots + 28 ≤ 7302250) {qE qM : Nat} {fE fM : List Value} (hE : (wc ++ (wm ++ ro))[qE]? = some (h, .inr (5, fE))) (hM : (wm ++ ro)[qM]? = some (g, .inr (6, fM)))
    {Pc Pm : Int32 → va_W → Prop} (hc : XI l yEV_set cEV_set 3 (some .boolean) D (xT3 cI cZ cV) d1 mc ms [.ref h, .int (xs (i0 + 1)), .int (xs (i0 + 2))] wc Pc) (hm : XI l yMO_set cMO_set 3 (some .boolean) D (xT3 cI cZ cV) d2 0 0 [.ref g, .int (xs (i0 + 1)), .int (xs (i0 + 2))] wm Pm)
    (kk : ∀ (r1 : Int32) (u1 : va_W) (r2 : Int32) (u2 : va_W) (H : Heap) (locs : List Loc) (ls : Array Slot), Pc r1 u1 → Pm r2 u2 → xW D (xT3 cI cZ cV) A s.heap H locs (u2 ++ (u1 ++ ro)) s → lv_has ls 4 [(0, .ref sb), (1, .ref h), (2, .ref g), (3, .int (nI i0))] → r1 = r2 ∧ W p l e room_1 s m args below meth c H locs (cells + 3) (slots + 28) Q (F0 m 582 ls [])) :
    W p l e room_1 s m args below meth c H locs cells slots Q (F0 m 398 ls []) := by
  obtain ⟨hx, hb, hml, hown, hts⟩ := id S
  refine lv_aload_n hx hb dLA_law_398 rfl (lv_at hl 1 rfl) ?_
  refine lv_aload_n hx hb dLA_law_399 rfl (lv_at hl 0 rfl) ?_
  refine lv_iload_n hx hb dLA_law_400 rfl (lv_at hl 3 rfl) ?_
  refine lv_iconst (v := 1) hx hb dLA_law_401 (by decide) ?_
  refine lv_iadd hx hb dLA_law_402 ?_
  refine x_sld S hw hX hbl hbA (i0 + 1) (nI_add i0 1) (by omega) hL dLA_law_403 ?_
  refine lv_aload_n hx hb dLA_law_404 rfl (lv_at hl 0 rfl) ?_
  refine lv_iload_n hx hb dLA_law_405 rfl (lv_at hl 3 rfl) ?_
  refine lv_iconst (v := 2) hx hb dLA_law_406 (by decide) ?_
  refine lv_iadd hx hb dLA_law_407 ?_
  refine x_sld S hw hX hbl hbA (i0 + 2) (nI_add i0 2) (by omega) hL dLA_law_408 ?_
  refine x_calliP hw (x_runVP (n := 2) (rest := []) (As := [.int (xs (i0 + 1)), .int (xs (i0 + 2))]) (N := 8) (T := TEV) S hw (hc _) xh_2_109 xh_2_106 xh_2_107 xh_2_108 xh_1_1 (by decide +kernel) ⟨by show _ ≤ 8; omega, by show _ ≤ 274; omega⟩ rfl hE rfl hl.1 rfl (Nat.le_of_ble_eq_true rfl) dLA_law_409 ⟨by show _ ≤ 600000; omega, by show _ ≤ 7302250; omega⟩) (fun r1 u1 H locs hr1 hw => ?_)
  have hw := x_perm (List.perm_append_comm_assoc u1 wm ro) hw
  obtain ⟨qM2, fM2, hM2⟩ : ∃ (q : Nat) (f : List Value), (wm ++ (u1 ++ ro))[q]? = some (g, .inr (6, f)) := by
    obtain ⟨q, hq⟩ := List.getElem?_of_mem ((List.perm_append_comm_assoc u1 wm ro).mem_iff.mp (List.mem_append_right _ (List.mem_of_getElem? hM)))
    exact ⟨q, _, hq⟩
  refine lv_aload_n hx hb dLA_law_412 rfl (lv_at hl 2 rfl) ?_
  refine lv_aload_n hx hb dLA_law_413 rfl (lv_at hl 0 rfl) ?_
  refine lv_iload_n hx hb dLA_law_414 rfl (lv_at hl 3 rfl) ?_
  refine lv_iconst (v := 1) hx hb dLA_law_415 (by decide) ?_
  refine lv_iadd hx hb dLA_law_416 ?_
  refine x_sld S hw hX hbl hbA (i0 + 1) (nI_add i0 1) (by omega) hL dLA_law_417 ?_
  refine lv_aload_n hx hb dLA_law_418 rfl (lv_at hl 0 rfl) ?_
  refine lv_iload_n hx hb dLA_law_419 rfl (lv_at hl 3 rfl) ?_
  refine lv_iconst (v := 2) hx hb dLA_law_420 (by decide) ?_
  refine lv_iadd hx hb dLA_law_421 ?_
  refine x_sld S hw hX hbl hbA (i0 + 2) (nI_add i0 2) (by omega) hL dLA_law_422 ?_
  refine x_calliP hw (x_runVP (n := 2) (rest := [.int r1]) (As := [.int (xs (i0 + 1)), .int (xs (i0 + 2))]) (N := 23) (T := TMO) S hw (hm _) xh_3_82 xh_3_79 xh_3_80 xh_3_81 xh_1_6 (by decide +kernel) ⟨by show _ ≤ 8; omega, by show _ ≤ 274; omega⟩ rfl hM2 rfl hl.1 rfl (Nat.le_of_ble_eq_true rfl) dLA_law_423 ⟨by show _ ≤ 600000; omega, by show _ ≤ 7302250; omega⟩) (fun r2 u2 H locs hr2 hw => ?_)
  obtain ⟨hrr, hW⟩ := kk r1 u1 r2 u2 H locs ls hr1 hr2 hw hl
  refine lv_icmp_eq (tgt := 582) hx hb dLA_law_426 (by decide) (fun _ => ?_) (fun h9 => absurd hrr h9)
  exact W.widen (by omega) (by omega) hW

set_option maxHeartbeats 4000000 in
set_option maxRecDepth 100000 in
theorem o_trim {p : Program} {l : Launch} {e : Env} {s : State} {m : MethodId} {args : Array Value} {below : List Frame} {meth : Method} {c : Code} {Q : State → Prop} {D : va_G} {A : Nat → Prop} {cI cZ cV : ClassId} {H : Heap} {locs : List Loc} {ls : Array Slot} {cells slots : Nat} (S : CallFix p m c code 4 s args xAll "EscrowedVersionsLaw") {sb L : Nat} {xs : Nat → Int32} (hX : va_X sb L xs s s.heap) (hbl : sb < s.heap.size) (hbA : ¬ A sb) (hL : L ≤ 2048) {h g i0 : Nat} (hi : i0 + 3 < L) (hl : lv_has ls 4 [(0, .ref sb), (1, .ref h), (2, .ref g), (3, .int (nI i0))]) {wc wm ro : va_W} (hw : xW D (xT3 cI cZ cV) A s.heap H locs (wc ++ (wm ++ ro)) s)
    {d1 d2 mc ms : Nat} (hd : d1 ≤ 5 ∧ d2 ≤ 4 ∧ mc ≤ 3 ∧ ms ≤ 28) (hcs : cells + 3 ≤ 600000 ∧ slots + 28 ≤ 7302250) {qE qM : Nat} {fE fM : List Value} (hE : (wc ++ (wm ++ ro))[qE]? = some (h, .inr (5, fE))) (hM : (wm ++ ro)[qM]? = some (g, .inr (6, fM)))
    {Pc Pm : Int32 → va_W → Prop} (hc : XI l yEV_trim cEV_trim 2 (some .boolean) D (xT3 cI cZ cV) d1 mc ms [.ref h, .int (xs (i0 + 1))] wc Pc) (hm : XI l yMO_trim cMO_trim 2 (some .boolean) D (xT3 cI cZ cV) d2 0 0 [.ref g, .int (xs (i0 + 1))] wm Pm)
    (kk : ∀ (r1 : Int32) (u1 : va_W) (r2 : Int32) (u2 : va_W) (H : Heap) (locs : List Loc) (ls : Array Slot), Pc r1 u1 → Pm r2 u2 → xW D (xT3 cI cZ cV) A s.heap H locs (u2 ++ (u1 ++ ro)) s → lv_has ls 4 [(0, .ref sb), (1, .ref h), (2, .ref g), (3, .int (nI i0))] → r1 = r2 ∧ W p l e room_1 s m args below meth c H locs (cells + 3) (slots + 28) Q (F0 m 582 ls [])) :
    W p l e room_1 s m args below meth c H locs cells slots Q (F0 m 431 ls []) := by
  obtain ⟨hx, hb, hml, hown, hts⟩ := id S
  refine lv_aload_n hx hb dLA_law_431 rfl (lv_at hl 1 rfl) ?_
  refine lv_aload_n hx hb dLA_law_432 rfl (lv_at hl 0 rfl) ?_
  refine lv_iload_n hx hb dLA_law_433 rfl (lv_at hl 3 rfl) ?_
  refine lv_iconst (v := 1) hx hb dLA_law_434 (by decide) ?_
  refine lv_iadd hx hb dLA_law_435 ?_
  refine x_sld S hw hX hbl hbA (i0 + 1) (nI_add i0 1) (by omega) hL dLA_law_436 ?_
  refine x_calliP hw (x_runVP (n := 1) (rest := []) (As := [.int (xs (i0 + 1))]) (N := 8) (T := TEV) S hw (hc _) xh_2_114 xh_2_111 xh_2_112 xh_2_113 xh_1_1 (by decide +kernel) ⟨by show _ ≤ 8; omega, by show _ ≤ 274; omega⟩ rfl hE rfl hl.1 rfl (Nat.le_of_ble_eq_true rfl) dLA_law_437 ⟨by show _ ≤ 600000; omega, by show _ ≤ 7302250; omega⟩) (fun r1 u1 H locs hr1 hw => ?_)
  have hw := x_perm (List.perm_append_comm_assoc u1 wm ro) hw
  obtain ⟨qM2, fM2, hM2⟩ : ∃ (q : Nat) (f : List Value), (wm ++ (u1 ++ ro))[q]? = some (g, .inr (6, f)) := by
    obtain ⟨q, hq⟩ := List.getElem?_of_mem ((List.perm_append_comm_assoc u1 wm ro).mem_iff.mp (List.mem_append_right _ (List.mem_of_getElem? hM)))
    exact ⟨q, _, hq⟩
  refine lv_aload_n hx hb dLA_law_440 rfl (lv_at hl 2 rfl) ?_
  refine lv_aload_n hx hb dLA_law_441 rfl (lv_at hl 0 rfl) ?_
  refine lv_iload_n hx hb dLA_law_442 rfl (lv_at hl 3 rfl) ?_
  refine lv_iconst (v := 1) hx hb dLA_law_443 (by decide) ?_
  refine lv_iadd hx hb dLA_law_444 ?_
  refine x_sld S hw hX hbl hbA (i0 + 1) (nI_add i0 1) (by omega) hL dLA_law_445 ?_
  refine x_calliP hw (x_runVP (n := 1) (rest := [.int r1]) (As := [.int (xs (i0 + 1))]) (N := 23) (T := TMO) S hw (hm _) xh_3_86 xh_3_83 xh_3_84 xh_3_85 xh_1_6 (by decide +kernel) ⟨by show _ ≤ 8; omega, by show _ ≤ 274; omega⟩ rfl hM2 rfl hl.1 rfl (Nat.le_of_ble_eq_true rfl) dLA_law_446 ⟨by show _ ≤ 600000; omega, by show _ ≤ 7302250; omega⟩) (fun r2 u2 H locs hr2 hw => ?_)
  obtain ⟨hrr, hW⟩ := kk r1 u1 r2 u2 H locs ls hr1 hr2 hw hl
  refine lv_icmp_eq (tgt := 582) hx hb dLA_law_449 (by decide) (fun _ => ?_) (fun h9 => absurd hrr h9)
  exact W.widen (by omega) (by omega) hW

set_option maxHeartbeats 4000000 in
set_option maxRecDepth 100000 in
theorem o_byteAt {p : Program} {l : Launch} {e : Env} {s : State} {m : MethodId} {args : Array Value} {below : List Frame} {meth : Method} {c : Code} {Q : State → Prop} {D : va_G} {A : Nat → Prop} {cI cZ cV : ClassId} {H : Heap} {locs : List Loc} {ls : Array Slot} {cells slots : Nat} (S : CallFix p m c code 4 s args xAll "EscrowedVersionsLaw") {sb L : Nat} {xs : Nat → Int32} (hX : va_X sb L xs s s.heap) (hbl : sb < s.heap.size) (hbA : ¬ A sb) (hL : L ≤ 2048) {h g i0 : Nat} (hi : i0 + 3 < L) (hl : lv_has ls 4 [(0, .ref sb), (1, .ref h), (2, .ref g), (3, .int (nI i0))]) {wc wm ro : va_W} (hw : xW D (xT3 cI cZ cV) A s.heap H locs (wc ++ (wm ++ ro)) s)
    {d1 d2 mc ms : Nat} (hd : d1 ≤ 5 ∧ d2 ≤ 4 ∧ mc ≤ 3 ∧ ms ≤ 28) (hcs : cells + 3 ≤ 600000 ∧ slots + 28 ≤ 7302250) {qE qM : Nat} {fE fM : List Value} (hE : (wc ++ (wm ++ ro))[qE]? = some (h, .inr (5, fE))) (hM : (wm ++ ro)[qM]? = some (g, .inr (6, fM)))
    {Pc Pm : Int32 → va_W → Prop} (hc : XI l yEV_byteAt cEV_byteAt 2 (some .int) D (xT3 cI cZ cV) d1 mc ms [.ref h, .int (xs (i0 + 1))] wc Pc) (hm : XI l yMO_byteAt cMO_byteAt 2 (some .int) D (xT3 cI cZ cV) d2 0 0 [.ref g, .int (xs (i0 + 1))] wm Pm)
    (kk : ∀ (r1 : Int32) (u1 : va_W) (r2 : Int32) (u2 : va_W) (H : Heap) (locs : List Loc) (ls : Array Slot), Pc r1 u1 → Pm r2 u2 → xW D (xT3 cI cZ cV) A s.heap H locs (u2 ++ (u1 ++ ro)) s → lv_has ls 4 [(0, .ref sb), (1, .ref h), (2, .ref g), (3, .int (nI i0))] → r1 = r2 ∧ W p l e room_1 s m args below meth c H locs (cells + 3) (slots + 28) Q (F0 m 582 ls [])) :
    W p l e room_1 s m args below meth c H locs cells slots Q (F0 m 454 ls []) := by
  obtain ⟨hx, hb, hml, hown, hts⟩ := id S
  refine lv_aload_n hx hb dLA_law_454 rfl (lv_at hl 1 rfl) ?_
  refine lv_aload_n hx hb dLA_law_455 rfl (lv_at hl 0 rfl) ?_
  refine lv_iload_n hx hb dLA_law_456 rfl (lv_at hl 3 rfl) ?_
  refine lv_iconst (v := 1) hx hb dLA_law_457 (by decide) ?_
  refine lv_iadd hx hb dLA_law_458 ?_
  refine x_sld S hw hX hbl hbA (i0 + 1) (nI_add i0 1) (by omega) hL dLA_law_459 ?_
  refine x_calliP hw (x_runVP (n := 1) (rest := []) (As := [.int (xs (i0 + 1))]) (N := 8) (T := TEV) S hw (hc _) xh_2_118 xh_2_115 xh_2_116 xh_2_117 xh_1_1 (by decide +kernel) ⟨by show _ ≤ 8; omega, by show _ ≤ 274; omega⟩ rfl hE rfl hl.1 rfl (Nat.le_of_ble_eq_true rfl) dLA_law_460 ⟨by show _ ≤ 600000; omega, by show _ ≤ 7302250; omega⟩) (fun r1 u1 H locs hr1 hw => ?_)
  have hw := x_perm (List.perm_append_comm_assoc u1 wm ro) hw
  obtain ⟨qM2, fM2, hM2⟩ : ∃ (q : Nat) (f : List Value), (wm ++ (u1 ++ ro))[q]? = some (g, .inr (6, f)) := by
    obtain ⟨q, hq⟩ := List.getElem?_of_mem ((List.perm_append_comm_assoc u1 wm ro).mem_iff.mp (List.mem_append_right _ (List.mem_of_getElem? hM)))
    exact ⟨q, _, hq⟩
  refine lv_aload_n hx hb dLA_law_463 rfl (lv_at hl 2 rfl) ?_
  refine lv_aload_n hx hb dLA_law_464 rfl (lv_at hl 0 rfl) ?_
  refine lv_iload_n hx hb dLA_law_465 rfl (lv_at hl 3 rfl) ?_
  refine lv_iconst (v := 1) hx hb dLA_law_466 (by decide) ?_
  refine lv_iadd hx hb dLA_law_467 ?_
  refine x_sld S hw hX hbl hbA (i0 + 1) (nI_add i0 1) (by omega) hL dLA_law_468 ?_
  refine x_calliP hw (x_runVP (n := 1) (rest := [.int r1]) (As := [.int (xs (i0 + 1))]) (N := 23) (T := TMO) S hw (hm _) xh_3_90 xh_3_87 xh_3_88 xh_3_89 xh_1_6 (by decide +kernel) ⟨by show _ ≤ 8; omega, by show _ ≤ 274; omega⟩ rfl hM2 rfl hl.1 rfl (Nat.le_of_ble_eq_true rfl) dLA_law_469 ⟨by show _ ≤ 600000; omega, by show _ ≤ 7302250; omega⟩) (fun r2 u2 H locs hr2 hw => ?_)
  obtain ⟨hrr, hW⟩ := kk r1 u1 r2 u2 H locs ls hr1 hr2 hw hl
  refine lv_icmp_eq (tgt := 582) hx hb dLA_law_472 (by decide) (fun _ => ?_) (fun h9 => absurd hrr h9)
  exact W.widen (by omega) (by omega) hW

set_option maxHeartbeats 4000000 in
set_option maxRecDepth 100000 in
theorem o_length {p : Program} {l : Launch} {e : Env} {s : State} {m : MethodId} {args : Array Value} {below : List Frame} {meth : Method} {c : Code} {Q : State → Prop} {D : va_G} {A : Nat → Prop} {cI cZ cV : ClassId} {H : Heap} {locs : List Loc} {ls : Array Slot} {cells slots : Nat} (S : CallFix p m c code 4 s args xAll "EscrowedVersionsLaw") {sb L : Nat} {xs : Nat → Int32} (hX : va_X sb L xs s s.heap) (hbl : sb < s.heap.size) (hbA : ¬ A sb) (hL : L ≤ 2048) {h g i0 : Nat} (hi : i0 + 3 < L) (hl : lv_has ls 4 [(0, .ref sb), (1, .ref h), (2, .ref g), (3, .int (nI i0))]) {wc wm ro : va_W} (hw : xW D (xT3 cI cZ cV) A s.heap H locs (wc ++ (wm ++ ro)) s)
    {d1 d2 mc ms : Nat} (hd : d1 ≤ 5 ∧ d2 ≤ 4 ∧ mc ≤ 3 ∧ ms ≤ 28) (hcs : cells + 3 ≤ 600000 ∧ slots + 28 ≤ 7302250) {qE qM : Nat} {fE fM : List Value} (hE : (wc ++ (wm ++ ro))[qE]? = some (h, .inr (5, fE))) (hM : (wm ++ ro)[qM]? = some (g, .inr (6, fM)))
    {Pc Pm : Int32 → va_W → Prop} (hc : XI l yEV_length cEV_length 1 (some .int) D (xT3 cI cZ cV) d1 mc ms [.ref h] wc Pc) (hm : XI l yMO_length cMO_length 1 (some .int) D (xT3 cI cZ cV) d2 0 0 [.ref g] wm Pm)
    (kk : ∀ (r1 : Int32) (u1 : va_W) (r2 : Int32) (u2 : va_W) (H : Heap) (locs : List Loc) (ls : Array Slot), Pc r1 u1 → Pm r2 u2 → xW D (xT3 cI cZ cV) A s.heap H locs (u2 ++ (u1 ++ ro)) s → lv_has ls 4 [(0, .ref sb), (1, .ref h), (2, .ref g), (3, .int (nI i0))] → r1 = r2 ∧ W p l e room_1 s m args below meth c H locs (cells + 3) (slots + 28) Q (F0 m 582 ls [])) :
    W p l e room_1 s m args below meth c H locs cells slots Q (F0 m 477 ls []) := by
  obtain ⟨hx, hb, hml, hown, hts⟩ := id S
  refine lv_aload_n hx hb dLA_law_477 rfl (lv_at hl 1 rfl) ?_
  refine x_calliP hw (x_runVP (n := 0) (rest := []) (As := []) (N := 8) (T := TEV) S hw (hc _) xh_2_122 xh_2_119 xh_2_120 xh_2_121 xh_1_1 (by decide +kernel) ⟨by show _ ≤ 8; omega, by show _ ≤ 274; omega⟩ rfl hE rfl hl.1 rfl (Nat.le_of_ble_eq_true rfl) dLA_law_478 ⟨by show _ ≤ 600000; omega, by show _ ≤ 7302250; omega⟩) (fun r1 u1 H locs hr1 hw => ?_)
  have hw := x_perm (List.perm_append_comm_assoc u1 wm ro) hw
  obtain ⟨qM2, fM2, hM2⟩ : ∃ (q : Nat) (f : List Value), (wm ++ (u1 ++ ro))[q]? = some (g, .inr (6, f)) := by
    obtain ⟨q, hq⟩ := List.getElem?_of_mem ((List.perm_append_comm_assoc u1 wm ro).mem_iff.mp (List.mem_append_right _ (List.mem_of_getElem? hM)))
    exact ⟨q, _, hq⟩
  refine lv_aload_n hx hb dLA_law_481 rfl (lv_at hl 2 rfl) ?_
  refine x_calliP hw (x_runVP (n := 0) (rest := [.int r1]) (As := []) (N := 23) (T := TMO) S hw (hm _) xh_3_94 xh_3_91 xh_3_92 xh_3_93 xh_1_6 (by decide +kernel) ⟨by show _ ≤ 8; omega, by show _ ≤ 274; omega⟩ rfl hM2 rfl hl.1 rfl (Nat.le_of_ble_eq_true rfl) dLA_law_482 ⟨by show _ ≤ 600000; omega, by show _ ≤ 7302250; omega⟩) (fun r2 u2 H locs hr2 hw => ?_)
  obtain ⟨hrr, hW⟩ := kk r1 u1 r2 u2 H locs ls hr1 hr2 hw hl
  refine lv_icmp_eq (tgt := 582) hx hb dLA_law_485 (by decide) (fun _ => ?_) (fun h9 => absurd hrr h9)
  exact W.widen (by omega) (by omega) hW

set_option maxHeartbeats 4000000 in
set_option maxRecDepth 100000 in
theorem o_version {p : Program} {l : Launch} {e : Env} {s : State} {m : MethodId} {args : Array Value} {below : List Frame} {meth : Method} {c : Code} {Q : State → Prop} {D : va_G} {A : Nat → Prop} {cI cZ cV : ClassId} {H : Heap} {locs : List Loc} {ls : Array Slot} {cells slots : Nat} (S : CallFix p m c code 4 s args xAll "EscrowedVersionsLaw") {sb L : Nat} {xs : Nat → Int32} (hX : va_X sb L xs s s.heap) (hbl : sb < s.heap.size) (hbA : ¬ A sb) (hL : L ≤ 2048) {h g i0 : Nat} (hi : i0 + 3 < L) (hl : lv_has ls 4 [(0, .ref sb), (1, .ref h), (2, .ref g), (3, .int (nI i0))]) {wc wm ro : va_W} (hw : xW D (xT3 cI cZ cV) A s.heap H locs (wc ++ (wm ++ ro)) s)
    {d1 d2 mc ms : Nat} (hd : d1 ≤ 5 ∧ d2 ≤ 4 ∧ mc ≤ 3 ∧ ms ≤ 28) (hcs : cells + 3 ≤ 600000 ∧ slots + 28 ≤ 7302250) {qE qM : Nat} {fE fM : List Value} (hE : (wc ++ (wm ++ ro))[qE]? = some (h, .inr (5, fE))) (hM : (wm ++ ro)[qM]? = some (g, .inr (6, fM)))
    {Pc Pm : Int32 → va_W → Prop} (hc : XI l yEV_version cEV_version 4 (some .int) D (xT3 cI cZ cV) d1 mc ms [.ref h, .int (xs (i0 + 1)), .int (xs (i0 + 2))] wc Pc) (hm : XI l yMO_version cMO_version 5 (some .int) D (xT3 cI cZ cV) d2 0 0 [.ref g, .int (xs (i0 + 1)), .int (xs (i0 + 2))] wm Pm)
    (kk : ∀ (r1 : Int32) (u1 : va_W) (r2 : Int32) (u2 : va_W) (H : Heap) (locs : List Loc) (ls : Array Slot), Pc r1 u1 → Pm r2 u2 → xW D (xT3 cI cZ cV) A s.heap H locs (u2 ++ (u1 ++ ro)) s → lv_has ls 4 [(0, .ref sb), (1, .ref h), (2, .ref g), (3, .int (nI i0))] → r1 = r2 ∧ W p l e room_1 s m args below meth c H locs (cells + 3) (slots + 28) Q (F0 m 582 ls [])) :
    W p l e room_1 s m args below meth c H locs cells slots Q (F0 m 490 ls []) := by
  obtain ⟨hx, hb, hml, hown, hts⟩ := id S
  refine lv_aload_n hx hb dLA_law_490 rfl (lv_at hl 1 rfl) ?_
  refine lv_aload_n hx hb dLA_law_491 rfl (lv_at hl 0 rfl) ?_
  refine lv_iload_n hx hb dLA_law_492 rfl (lv_at hl 3 rfl) ?_
  refine lv_iconst (v := 1) hx hb dLA_law_493 (by decide) ?_
  refine lv_iadd hx hb dLA_law_494 ?_
  refine x_sld S hw hX hbl hbA (i0 + 1) (nI_add i0 1) (by omega) hL dLA_law_495 ?_
  refine lv_aload_n hx hb dLA_law_496 rfl (lv_at hl 0 rfl) ?_
  refine lv_iload_n hx hb dLA_law_497 rfl (lv_at hl 3 rfl) ?_
  refine lv_iconst (v := 2) hx hb dLA_law_498 (by decide) ?_
  refine lv_iadd hx hb dLA_law_499 ?_
  refine x_sld S hw hX hbl hbA (i0 + 2) (nI_add i0 2) (by omega) hL dLA_law_500 ?_
  refine x_calliP hw (x_runVP (n := 2) (rest := []) (As := [.int (xs (i0 + 1)), .int (xs (i0 + 2))]) (N := 8) (T := TEV) S hw (hc _) xh_2_126 xh_2_123 xh_2_124 xh_2_125 xh_1_1 (by decide +kernel) ⟨by show _ ≤ 8; omega, by show _ ≤ 274; omega⟩ rfl hE rfl hl.1 rfl (Nat.le_of_ble_eq_true rfl) dLA_law_501 ⟨by show _ ≤ 600000; omega, by show _ ≤ 7302250; omega⟩) (fun r1 u1 H locs hr1 hw => ?_)
  have hw := x_perm (List.perm_append_comm_assoc u1 wm ro) hw
  obtain ⟨qM2, fM2, hM2⟩ : ∃ (q : Nat) (f : List Value), (wm ++ (u1 ++ ro))[q]? = some (g, .inr (6, f)) := by
    obtain ⟨q, hq⟩ := List.getElem?_of_mem ((List.perm_append_comm_assoc u1 wm ro).mem_iff.mp (List.mem_append_right _ (List.mem_of_getElem? hM)))
    exact ⟨q, _, hq⟩
  refine lv_aload_n hx hb dLA_law_504 rfl (lv_at hl 2 rfl) ?_
  refine lv_aload_n hx hb dLA_law_505 rfl (lv_at hl 0 rfl) ?_
  refine lv_iload_n hx hb dLA_law_506 rfl (lv_at hl 3 rfl) ?_
  refine lv_iconst (v := 1) hx hb dLA_law_507 (by decide) ?_
  refine lv_iadd hx hb dLA_law_508 ?_
  refine x_sld S hw hX hbl hbA (i0 + 1) (nI_add i0 1) (by omega) hL dLA_law_509 ?_
  refine lv_aload_n hx hb dLA_law_510 rfl (lv_at hl 0 rfl) ?_
  refine lv_iload_n hx hb dLA_law_511 rfl (lv_at hl 3 rfl) ?_
  refine lv_iconst (v := 2) hx hb dLA_law_512 (by decide) ?_
  refine lv_iadd hx hb dLA_law_513 ?_
  refine x_sld S hw hX hbl hbA (i0 + 2) (nI_add i0 2) (by omega) hL dLA_law_514 ?_
  refine x_calliP hw (x_runVP (n := 2) (rest := [.int r1]) (As := [.int (xs (i0 + 1)), .int (xs (i0 + 2))]) (N := 23) (T := TMO) S hw (hm _) xh_3_98 xh_3_95 xh_3_96 xh_3_97 xh_1_6 (by decide +kernel) ⟨by show _ ≤ 8; omega, by show _ ≤ 274; omega⟩ rfl hM2 rfl hl.1 rfl (Nat.le_of_ble_eq_true rfl) dLA_law_515 ⟨by show _ ≤ 600000; omega, by show _ ≤ 7302250; omega⟩) (fun r2 u2 H locs hr2 hw => ?_)
  obtain ⟨hrr, hW⟩ := kk r1 u1 r2 u2 H locs ls hr1 hr2 hw hl
  refine lv_icmp_eq (tgt := 582) hx hb dLA_law_518 (by decide) (fun _ => ?_) (fun h9 => absurd hrr h9)
  exact W.widen (by omega) (by omega) hW

set_option maxHeartbeats 4000000 in
set_option maxRecDepth 100000 in
theorem o_versions {p : Program} {l : Launch} {e : Env} {s : State} {m : MethodId} {args : Array Value} {below : List Frame} {meth : Method} {c : Code} {Q : State → Prop} {D : va_G} {A : Nat → Prop} {cI cZ cV : ClassId} {H : Heap} {locs : List Loc} {ls : Array Slot} {cells slots : Nat} (S : CallFix p m c code 4 s args xAll "EscrowedVersionsLaw") {sb L : Nat} {xs : Nat → Int32} (hX : va_X sb L xs s s.heap) (hbl : sb < s.heap.size) (hbA : ¬ A sb) (hL : L ≤ 2048) {h g i0 : Nat} (hi : i0 + 3 < L) (hl : lv_has ls 4 [(0, .ref sb), (1, .ref h), (2, .ref g), (3, .int (nI i0))]) {wc wm ro : va_W} (hw : xW D (xT3 cI cZ cV) A s.heap H locs (wc ++ (wm ++ ro)) s)
    {d1 d2 mc ms : Nat} (hd : d1 ≤ 5 ∧ d2 ≤ 4 ∧ mc ≤ 3 ∧ ms ≤ 28) (hcs : cells + 3 ≤ 600000 ∧ slots + 28 ≤ 7302250) {qE qM : Nat} {fE fM : List Value} (hE : (wc ++ (wm ++ ro))[qE]? = some (h, .inr (5, fE))) (hM : (wm ++ ro)[qM]? = some (g, .inr (6, fM)))
    {Pc Pm : Int32 → va_W → Prop} (hc : XI l yEV_versions cEV_versions 1 (some .int) D (xT3 cI cZ cV) d1 mc ms [.ref h] wc Pc) (hm : XI l yMO_versions cMO_versions 1 (some .int) D (xT3 cI cZ cV) d2 0 0 [.ref g] wm Pm)
    (kk : ∀ (r1 : Int32) (u1 : va_W) (r2 : Int32) (u2 : va_W) (H : Heap) (locs : List Loc) (ls : Array Slot), Pc r1 u1 → Pm r2 u2 → xW D (xT3 cI cZ cV) A s.heap H locs (u2 ++ (u1 ++ ro)) s → lv_has ls 4 [(0, .ref sb), (1, .ref h), (2, .ref g), (3, .int (nI i0))] → r1 = r2 ∧ W p l e room_1 s m args below meth c H locs (cells + 3) (slots + 28) Q (F0 m 582 ls [])) :
    W p l e room_1 s m args below meth c H locs cells slots Q (F0 m 523 ls []) := by
  obtain ⟨hx, hb, hml, hown, hts⟩ := id S
  refine lv_aload_n hx hb dLA_law_523 rfl (lv_at hl 1 rfl) ?_
  refine x_calliP hw (x_runVP (n := 0) (rest := []) (As := []) (N := 8) (T := TEV) S hw (hc _) xh_2_130 xh_2_127 xh_2_128 xh_2_129 xh_1_1 (by decide +kernel) ⟨by show _ ≤ 8; omega, by show _ ≤ 274; omega⟩ rfl hE rfl hl.1 rfl (Nat.le_of_ble_eq_true rfl) dLA_law_524 ⟨by show _ ≤ 600000; omega, by show _ ≤ 7302250; omega⟩) (fun r1 u1 H locs hr1 hw => ?_)
  have hw := x_perm (List.perm_append_comm_assoc u1 wm ro) hw
  obtain ⟨qM2, fM2, hM2⟩ : ∃ (q : Nat) (f : List Value), (wm ++ (u1 ++ ro))[q]? = some (g, .inr (6, f)) := by
    obtain ⟨q, hq⟩ := List.getElem?_of_mem ((List.perm_append_comm_assoc u1 wm ro).mem_iff.mp (List.mem_append_right _ (List.mem_of_getElem? hM)))
    exact ⟨q, _, hq⟩
  refine lv_aload_n hx hb dLA_law_527 rfl (lv_at hl 2 rfl) ?_
  refine x_calliP hw (x_runVP (n := 0) (rest := [.int r1]) (As := []) (N := 23) (T := TMO) S hw (hm _) xh_3_102 xh_3_99 xh_3_100 xh_3_101 xh_1_6 (by decide +kernel) ⟨by show _ ≤ 8; omega, by show _ ≤ 274; omega⟩ rfl hM2 rfl hl.1 rfl (Nat.le_of_ble_eq_true rfl) dLA_law_528 ⟨by show _ ≤ 600000; omega, by show _ ≤ 7302250; omega⟩) (fun r2 u2 H locs hr2 hw => ?_)
  obtain ⟨hrr, hW⟩ := kk r1 u1 r2 u2 H locs ls hr1 hr2 hw hl
  refine lv_icmp_eq (tgt := 582) hx hb dLA_law_531 (by decide) (fun _ => ?_) (fun h9 => absurd hrr h9)
  exact W.widen (by omega) (by omega) hW

set_option maxHeartbeats 4000000 in
set_option maxRecDepth 100000 in
theorem o_log {p : Program} {l : Launch} {e : Env} {s : State} {m : MethodId} {args : Array Value} {below : List Frame} {meth : Method} {c : Code} {Q : State → Prop} {D : va_G} {A : Nat → Prop} {cI cZ cV : ClassId} {H : Heap} {locs : List Loc} {ls : Array Slot} {cells slots : Nat} (S : CallFix p m c code 4 s args xAll "EscrowedVersionsLaw") {sb L : Nat} {xs : Nat → Int32} (hX : va_X sb L xs s s.heap) (hbl : sb < s.heap.size) (hbA : ¬ A sb) (hL : L ≤ 2048) {h g i0 : Nat} (hi : i0 + 3 < L) (hl : lv_has ls 4 [(0, .ref sb), (1, .ref h), (2, .ref g), (3, .int (nI i0))]) {wc wm ro : va_W} (hw : xW D (xT3 cI cZ cV) A s.heap H locs (wc ++ (wm ++ ro)) s)
    {d1 d2 mc ms : Nat} (hd : d1 ≤ 5 ∧ d2 ≤ 4 ∧ mc ≤ 3 ∧ ms ≤ 28) (hcs : cells + 3 ≤ 600000 ∧ slots + 28 ≤ 7302250) {qE qM : Nat} {fE fM : List Value} (hE : (wc ++ (wm ++ ro))[qE]? = some (h, .inr (5, fE))) (hM : (wm ++ ro)[qM]? = some (g, .inr (6, fM)))
    {Pc Pm : Int32 → va_W → Prop} (hc : XI l yEV_log cEV_log 3 (some .int) D (xT3 cI cZ cV) d1 mc ms [.ref h, .int (xs (i0 + 1)), .int (xs (i0 + 2))] wc Pc) (hm : XI l yMO_log cMO_log 3 (some .int) D (xT3 cI cZ cV) d2 0 0 [.ref g, .int (xs (i0 + 1)), .int (xs (i0 + 2))] wm Pm)
    (kk : ∀ (r1 : Int32) (u1 : va_W) (r2 : Int32) (u2 : va_W) (H : Heap) (locs : List Loc) (ls : Array Slot), Pc r1 u1 → Pm r2 u2 → xW D (xT3 cI cZ cV) A s.heap H locs (u2 ++ (u1 ++ ro)) s → lv_has ls 4 [(0, .ref sb), (1, .ref h), (2, .ref g), (3, .int (nI i0))] → r1 = r2 ∧ W p l e room_1 s m args below meth c H locs (cells + 3) (slots + 28) Q (F0 m 582 ls [])) :
    W p l e room_1 s m args below meth c H locs cells slots Q (F0 m 536 ls []) := by
  obtain ⟨hx, hb, hml, hown, hts⟩ := id S
  refine lv_aload_n hx hb dLA_law_536 rfl (lv_at hl 1 rfl) ?_
  refine lv_aload_n hx hb dLA_law_537 rfl (lv_at hl 0 rfl) ?_
  refine lv_iload_n hx hb dLA_law_538 rfl (lv_at hl 3 rfl) ?_
  refine lv_iconst (v := 1) hx hb dLA_law_539 (by decide) ?_
  refine lv_iadd hx hb dLA_law_540 ?_
  refine x_sld S hw hX hbl hbA (i0 + 1) (nI_add i0 1) (by omega) hL dLA_law_541 ?_
  refine lv_aload_n hx hb dLA_law_542 rfl (lv_at hl 0 rfl) ?_
  refine lv_iload_n hx hb dLA_law_543 rfl (lv_at hl 3 rfl) ?_
  refine lv_iconst (v := 2) hx hb dLA_law_544 (by decide) ?_
  refine lv_iadd hx hb dLA_law_545 ?_
  refine x_sld S hw hX hbl hbA (i0 + 2) (nI_add i0 2) (by omega) hL dLA_law_546 ?_
  refine x_calliP hw (x_runVP (n := 2) (rest := []) (As := [.int (xs (i0 + 1)), .int (xs (i0 + 2))]) (N := 8) (T := TEV) S hw (hc _) xh_2_134 xh_2_131 xh_2_132 xh_2_133 xh_1_1 (by decide +kernel) ⟨by show _ ≤ 8; omega, by show _ ≤ 274; omega⟩ rfl hE rfl hl.1 rfl (Nat.le_of_ble_eq_true rfl) dLA_law_547 ⟨by show _ ≤ 600000; omega, by show _ ≤ 7302250; omega⟩) (fun r1 u1 H locs hr1 hw => ?_)
  have hw := x_perm (List.perm_append_comm_assoc u1 wm ro) hw
  obtain ⟨qM2, fM2, hM2⟩ : ∃ (q : Nat) (f : List Value), (wm ++ (u1 ++ ro))[q]? = some (g, .inr (6, f)) := by
    obtain ⟨q, hq⟩ := List.getElem?_of_mem ((List.perm_append_comm_assoc u1 wm ro).mem_iff.mp (List.mem_append_right _ (List.mem_of_getElem? hM)))
    exact ⟨q, _, hq⟩
  refine lv_aload_n hx hb dLA_law_550 rfl (lv_at hl 2 rfl) ?_
  refine lv_aload_n hx hb dLA_law_551 rfl (lv_at hl 0 rfl) ?_
  refine lv_iload_n hx hb dLA_law_552 rfl (lv_at hl 3 rfl) ?_
  refine lv_iconst (v := 1) hx hb dLA_law_553 (by decide) ?_
  refine lv_iadd hx hb dLA_law_554 ?_
  refine x_sld S hw hX hbl hbA (i0 + 1) (nI_add i0 1) (by omega) hL dLA_law_555 ?_
  refine lv_aload_n hx hb dLA_law_556 rfl (lv_at hl 0 rfl) ?_
  refine lv_iload_n hx hb dLA_law_557 rfl (lv_at hl 3 rfl) ?_
  refine lv_iconst (v := 2) hx hb dLA_law_558 (by decide) ?_
  refine lv_iadd hx hb dLA_law_559 ?_
  refine x_sld S hw hX hbl hbA (i0 + 2) (nI_add i0 2) (by omega) hL dLA_law_560 ?_
  refine x_calliP hw (x_runVP (n := 2) (rest := [.int r1]) (As := [.int (xs (i0 + 1)), .int (xs (i0 + 2))]) (N := 23) (T := TMO) S hw (hm _) xh_3_106 xh_3_103 xh_3_104 xh_3_105 xh_1_6 (by decide +kernel) ⟨by show _ ≤ 8; omega, by show _ ≤ 274; omega⟩ rfl hM2 rfl hl.1 rfl (Nat.le_of_ble_eq_true rfl) dLA_law_561 ⟨by show _ ≤ 600000; omega, by show _ ≤ 7302250; omega⟩) (fun r2 u2 H locs hr2 hw => ?_)
  obtain ⟨hrr, hW⟩ := kk r1 u1 r2 u2 H locs ls hr1 hr2 hw hl
  refine lv_icmp_eq (tgt := 582) hx hb dLA_law_564 (by decide) (fun _ => ?_) (fun h9 => absurd hrr h9)
  exact W.widen (by omega) (by omega) hW

set_option maxHeartbeats 4000000 in
set_option maxRecDepth 100000 in
theorem o_entries {p : Program} {l : Launch} {e : Env} {s : State} {m : MethodId} {args : Array Value} {below : List Frame} {meth : Method} {c : Code} {Q : State → Prop} {D : va_G} {A : Nat → Prop} {cI cZ cV : ClassId} {H : Heap} {locs : List Loc} {ls : Array Slot} {cells slots : Nat} (S : CallFix p m c code 4 s args xAll "EscrowedVersionsLaw") {sb L : Nat} {xs : Nat → Int32} (hX : va_X sb L xs s s.heap) (hbl : sb < s.heap.size) (hbA : ¬ A sb) (hL : L ≤ 2048) {h g i0 : Nat} (hi : i0 + 3 < L) (hl : lv_has ls 4 [(0, .ref sb), (1, .ref h), (2, .ref g), (3, .int (nI i0))]) {wc wm ro : va_W} (hw : xW D (xT3 cI cZ cV) A s.heap H locs (wc ++ (wm ++ ro)) s)
    {d1 d2 mc ms : Nat} (hd : d1 ≤ 5 ∧ d2 ≤ 4 ∧ mc ≤ 3 ∧ ms ≤ 28) (hcs : cells + 3 ≤ 600000 ∧ slots + 28 ≤ 7302250) {qE qM : Nat} {fE fM : List Value} (hE : (wc ++ (wm ++ ro))[qE]? = some (h, .inr (5, fE))) (hM : (wm ++ ro)[qM]? = some (g, .inr (6, fM)))
    {Pc Pm : Int32 → va_W → Prop} (hc : XI l yEV_entries cEV_entries 1 (some .int) D (xT3 cI cZ cV) d1 mc ms [.ref h] wc Pc) (hm : XI l yMO_entries cMO_entries 1 (some .int) D (xT3 cI cZ cV) d2 0 0 [.ref g] wm Pm)
    (kk : ∀ (r1 : Int32) (u1 : va_W) (r2 : Int32) (u2 : va_W) (H : Heap) (locs : List Loc) (ls : Array Slot), Pc r1 u1 → Pm r2 u2 → xW D (xT3 cI cZ cV) A s.heap H locs (u2 ++ (u1 ++ ro)) s → lv_has ls 4 [(0, .ref sb), (1, .ref h), (2, .ref g), (3, .int (nI i0))] → r1 = r2 ∧ W p l e room_1 s m args below meth c H locs (cells + 3) (slots + 28) Q (F0 m 582 ls [])) :
    W p l e room_1 s m args below meth c H locs cells slots Q (F0 m 569 ls []) := by
  obtain ⟨hx, hb, hml, hown, hts⟩ := id S
  refine lv_aload_n hx hb dLA_law_569 rfl (lv_at hl 1 rfl) ?_
  refine x_calliP hw (x_runVP (n := 0) (rest := []) (As := []) (N := 8) (T := TEV) S hw (hc _) xh_2_138 xh_2_135 xh_2_136 xh_2_137 xh_1_1 (by decide +kernel) ⟨by show _ ≤ 8; omega, by show _ ≤ 274; omega⟩ rfl hE rfl hl.1 rfl (Nat.le_of_ble_eq_true rfl) dLA_law_570 ⟨by show _ ≤ 600000; omega, by show _ ≤ 7302250; omega⟩) (fun r1 u1 H locs hr1 hw => ?_)
  have hw := x_perm (List.perm_append_comm_assoc u1 wm ro) hw
  obtain ⟨qM2, fM2, hM2⟩ : ∃ (q : Nat) (f : List Value), (wm ++ (u1 ++ ro))[q]? = some (g, .inr (6, f)) := by
    obtain ⟨q, hq⟩ := List.getElem?_of_mem ((List.perm_append_comm_assoc u1 wm ro).mem_iff.mp (List.mem_append_right _ (List.mem_of_getElem? hM)))
    exact ⟨q, _, hq⟩
  refine lv_aload_n hx hb dLA_law_573 rfl (lv_at hl 2 rfl) ?_
  refine x_calliP hw (x_runVP (n := 0) (rest := [.int r1]) (As := []) (N := 23) (T := TMO) S hw (hm _) xh_3_110 xh_3_107 xh_3_108 xh_3_109 xh_1_6 (by decide +kernel) ⟨by show _ ≤ 8; omega, by show _ ≤ 274; omega⟩ rfl hM2 rfl hl.1 rfl (Nat.le_of_ble_eq_true rfl) dLA_law_574 ⟨by show _ ≤ 600000; omega, by show _ ≤ 7302250; omega⟩) (fun r2 u2 H locs hr2 hw => ?_)
  obtain ⟨hrr, hW⟩ := kk r1 u1 r2 u2 H locs ls hr1 hr2 hw hl
  refine lv_icmp_eq (tgt := 582) hx hb dLA_law_577 (by decide) (fun _ => ?_) (fun h9 => absurd hrr h9)
  exact W.widen (by omega) (by omega) hW
