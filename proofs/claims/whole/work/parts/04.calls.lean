/-! Calls over the layer. -/
theorem x_goodIn (ws' : List Cond) (h : ∀ w ∈ ws', w ∈ xAll) : GoodIn xAll ws' := fun w hw => ⟨h w hw, good_of_word (xGood w (h w hw))⟩
section XC
variable {p : Program} {l : Launch} {e : Env} {R : Room} {s : State} {m : MethodId} {args : Array Value} {below : List Frame} {meth : Method} {c : Code} {H : Heap} {locs : List Loc} {cells slots : Nat} {Q : State → Prop}
variable {cc : ByteArray} {pc nL : Nat} {ls : Array Slot} {rest st : List Value} {D : va_G} {A : Nat → Prop} {tys : List (ClassId × FieldType)} {ws w0 : va_W} {H0 : Heap} {own host : String}
variable {y : MethodName} {bytes : ByteArray} {maxL mc ms n index d b : Nat} {ret : Option FieldType} {As : List Value} {Qc : Array Value → State → Outcome → State → Prop} {free : Addr → Prop}
theorem x_free (hw : xW D tys A H0 H locs ws s) (is : List Nat) (hC : is.map (fun i => ws[i]?) = w0.map some) : ∀ q, va_A w0 H.size q → A q := va_free hw.2.2.1 hw.2.2.2.1 hw.2.2.2.2 is hC
theorem x_preS (hw : xW D tys A H0 H locs ws s) (is : List Nat) (hC : is.map (fun i => ws[i]?) = w0.map some) (hn : va_nd is = true) (av : List Value) : PreS s H (va_Pc av (xPre D tys H.size w0)) av :=
  ⟨xPre_blind, fun U hU hW => ⟨rfl, by rw [hU], by
    rw [hU]
    intro k q hk
    obtain ⟨i, -, h⟩ := x_map_at hC hk
    exact hw.2.1 i q h, xK.warm hW hw.1, (hw.2.2.1.sub is hn hC).weaken (fun _ _ _ _ => trivial)⟩⟩
theorem x_preV (hw : xW D tys A H0 H locs ws s) (is : List Nat) (hC : is.map (fun i => ws[i]?) = w0.map some) (hn : va_nd is = true) {q : vw_C} {q0 ci : Nat} {fs : List Value} (hc : vwCl[ci]? = some q) (he : ws[q0]? = some (b, .inr (ci, fs))) (av : List Value) : PreV s H q.1 b (va_Pc (.ref b :: av) (xPre D tys H.size w0)) av :=
  ⟨xPre_blind, va_recv hw.1.1 hw.2.1 hc he, (x_preS hw is hC hn (.ref b :: av)).2⟩
theorem x_runV (S : CallFix p m c cc nL s args xAll own) (hw : xW D tys A H0 H locs ws s) (hM : Met l y (xWs y bytes maxL ret) (xR d mc ms) (va_Pc (.ref b :: As) (xPre D tys H.size w0)) Qc mc ms free)
    (hcode : Cond.code y bytes maxL ret ∈ xAll) (hlink : Cond.methodLink own index y ∈ xAll) (hinst : Cond.instanceMethod y ∈ xAll) (hsel : Cond.selects y.cls y y ∈ xAll) (hini : Cond.initialized y.cls ∈ xAll)
    (hd : y.cls ≠ "java/lang/invoke/MethodHandle" ∧ y.cls ≠ "java/lang/invoke/VarHandle" ∧ (parseMethodDescriptor y.desc).map (fun d => d.parameters.length) = some n) (hR : d + 1 ≤ R.frames ∧ 8 + (maxL + 11) + 40 * d ≤ R.locals)
    (is : List Nat) (hC : is.map (fun i => ws[i]?) = w0.map some) (hn : va_nd is = true) {T : u_T} {N q0 ci : Nat} {fs : List Value} (hc : vwCl[ci]? = some (y.cls, T, N)) (he : ws[q0]? = some (b, .inr (ci, fs)))
    (hn2 : As.length = n) (hls : ls.size = nL) (hst : st = As.reverse ++ .ref b :: rest) (hrm : (rest.map fun v => v.category).sum ≤ 8) (hdg : decode cc pc = .ok (.invokevirtual index, 3)) (hf : cells + mc ≤ R.cells ∧ slots + ms ≤ R.slots) :
    va_Run p l e R s m args below meth c H locs cells slots mc ms (F0 m pc ls st) rest (Qc (Value.ref b :: As).toArray) free := by
  have hin : ∀ w ∈ wsV own index y.cls y (xWs y bytes maxL ret), w ∈ xAll := by
    intro w h
    rcases List.mem_append.mp h with h | h
    · simp only [List.mem_cons, List.not_mem_nil, or_false] at h
      rcases h with rfl | rfl | rfl | rfl <;> assumption
    · rcases List.mem_cons.mp h with rfl | h
      · exact hcode
      · exact h
  exact va_runV S hM (cwV n S.2.2.2.2 (x_goodIn _ hin) rfl rfl rfl ⟨rfl, hd⟩ hR) (x_preV hw is hC hn hc he As) rfl hn2 hls hst (lv_room (m := m) (pc := pc) (ls := ls) (rest := st) hrm) hdg hf
theorem x_runS (S : CallFix p m c cc nL s args xAll own) (hw : xW D tys A H0 H locs ws s) (hM : Met l y (xWs y bytes maxL ret) (xR d mc ms) (va_Pc As (xPre D tys H.size w0)) Qc mc ms free)
    (hcode : Cond.code y bytes maxL ret ∈ xAll) (hlink : Cond.methodLink own index y ∈ xAll) (hstat : Cond.static y ∈ xAll) (hini : Cond.initialized y.cls ∈ xAll)
    (hd : y.cls ≠ "java/lang/invoke/MethodHandle" ∧ y.cls ≠ "java/lang/invoke/VarHandle" ∧ (parseMethodDescriptor y.desc).map (fun d => d.parameters.length) = some n) (hR : d + 1 ≤ R.frames ∧ 8 + (maxL + 11) + 40 * d ≤ R.locals)
    (is : List Nat) (hC : is.map (fun i => ws[i]?) = w0.map some) (hn : va_nd is = true)
    (hn2 : As.length = n) (hls : ls.size = nL) (hst : st = As.reverse ++ rest) (hrm : (rest.map fun v => v.category).sum ≤ 8) (hdg : decode cc pc = .ok (.invokestatic index, 3)) (hf : cells + mc ≤ R.cells ∧ slots + ms ≤ R.slots) :
    va_Run p l e R s m args below meth c H locs cells slots mc ms (F0 m pc ls st) rest (Qc As.toArray) free := by
  have hin : ∀ w ∈ va_wsS own index y (xWs y bytes maxL ret), w ∈ xAll := by
    intro w h
    rcases List.mem_append.mp h with h | h
    · simp only [List.mem_cons, List.not_mem_nil, or_false] at h
      rcases h with rfl | rfl | rfl <;> assumption
    · rcases List.mem_cons.mp h with rfl | h
      · exact hcode
      · exact h
  exact va_runS S hM (va_cwS n S.2.2.2.2 (x_goodIn _ hin) rfl rfl rfl hd hR) (x_preS hw is hC hn As) rfl hn2 hls hst (lv_room (m := m) (pc := pc) (ls := ls) (rest := st) hrm) hdg hf
theorem x_inC (hcode : Cond.code y bytes maxL ret ∈ xAll) : ∀ w ∈ xWs y bytes maxL ret, w ∈ xAll := fun w h => by
  rcases List.mem_cons.mp h with rfl | h
  · exact hcode
  · exact h
theorem x_runSN (S : CallFix p m c cc nL s args xAll own) (hw : xW D tys A H0 H locs ws s) (hM : Met l y (xWs y bytes maxL ret) (xR d mc ms) (va_Pc As (xPre D tys H.size w0)) Qc mc ms free)
    (hcode : Cond.code y bytes maxL ret ∈ xAll) (hlink : Cond.methodLinkNest own index y host ∈ xNest) (hstat : Cond.static y ∈ xAll) (hini : Cond.initialized y.cls ∈ xAll)
    (hd : y.cls ≠ "java/lang/invoke/MethodHandle" ∧ y.cls ≠ "java/lang/invoke/VarHandle" ∧ (parseMethodDescriptor y.desc).map (fun d => d.parameters.length) = some n) (hR : d + 1 ≤ R.frames ∧ 8 + (maxL + 11) + 40 * d ≤ R.locals)
    (is : List Nat) (hC : is.map (fun i => ws[i]?) = w0.map some) (hn : va_nd is = true)
    (hn2 : As.length = n) (hls : ls.size = nL) (hst : st = As.reverse ++ rest) (hrm : (rest.map fun v => v.category).sum ≤ 8) (hdg : decode cc pc = .ok (.invokestatic index, 3)) (hf : cells + mc ≤ R.cells ∧ slots + ms ≤ R.slots) :
    va_Run p l e R s m args below meth c H locs cells slots mc ms (F0 m pc ls st) rest (Qc As.toArray) free :=
  va_runSN S hM ⟨va_cnB n S.2.2.2.2 (x_goodIn _ (x_inC hcode)) rfl rfl rfl (hw.1.2.1 _ hlink) (S.2.2.2.2 _ hini) hd hR, S.2.2.2.2 _ hstat, trivial⟩ (x_preS hw is hC hn As) rfl hn2 hls hst (lv_room (m := m) (pc := pc) (ls := ls) (rest := st) hrm) hdg hf
theorem x_runVN (S : CallFix p m c cc nL s args xAll own) (hw : xW D tys A H0 H locs ws s) (hM : Met l y (xWs y bytes maxL ret) (xR d mc ms) (va_Pc (.ref b :: As) (xPre D tys H.size w0)) Qc mc ms free)
    (hcode : Cond.code y bytes maxL ret ∈ xAll) (hlink : Cond.methodLinkNest own index y host ∈ xNest) (hinst : Cond.instanceMethod y ∈ xAll) (hsel : Cond.selects y.cls y y ∈ xAll) (hini : Cond.initialized y.cls ∈ xAll)
    (hd : y.cls ≠ "java/lang/invoke/MethodHandle" ∧ y.cls ≠ "java/lang/invoke/VarHandle" ∧ (parseMethodDescriptor y.desc).map (fun d => d.parameters.length) = some n) (hR : d + 1 ≤ R.frames ∧ 8 + (maxL + 11) + 40 * d ≤ R.locals)
    (is : List Nat) (hC : is.map (fun i => ws[i]?) = w0.map some) (hn : va_nd is = true) {T : u_T} {N q0 ci : Nat} {fs : List Value} (hc : vwCl[ci]? = some (y.cls, T, N)) (he : ws[q0]? = some (b, .inr (ci, fs)))
    (hn2 : As.length = n) (hls : ls.size = nL) (hst : st = As.reverse ++ .ref b :: rest) (hrm : (rest.map fun v => v.category).sum ≤ 8) (hdg : decode cc pc = .ok (.invokevirtual index, 3)) (hf : cells + mc ≤ R.cells ∧ slots + ms ≤ R.slots) :
    va_Run p l e R s m args below meth c H locs cells slots mc ms (F0 m pc ls st) rest (Qc (Value.ref b :: As).toArray) free :=
  va_runVN S hM ⟨va_cnB n S.2.2.2.2 (x_goodIn _ (x_inC hcode)) rfl rfl rfl (hw.1.2.1 _ hlink) (S.2.2.2.2 _ hini) hd hR, S.2.2.2.2 _ hinst, S.2.2.2.2 _ hsel⟩ (x_preV hw is hC hn hc he As) rfl hn2 hls hst (lv_room (m := m) (pc := pc) (ls := ls) (rest := st) hrm) hdg hf
theorem x_runI (S : CallFix p m c cc nL s args xAll own) (hw : xW D tys A H0 H locs ws s) (hM : Met l y (xWs y bytes maxL none) (xR d mc ms) (va_Pc (.ref b :: As) (xPre D tys H.size w0)) Qc mc ms free)
    (hcode : Cond.code y bytes maxL none ∈ xAll) (hlink : Cond.methodLink own index y ∈ xAll) (hinst : Cond.instanceMethod y ∈ xAll) (hini : Cond.initialized y.cls ∈ xAll) (hy1 : y.name = "<init>")
    (hd : y.cls ≠ "java/lang/invoke/MethodHandle" ∧ y.cls ≠ "java/lang/invoke/VarHandle" ∧ (parseMethodDescriptor y.desc).map (fun d => d.parameters.length) = some n) (hR : d + 1 ≤ R.frames ∧ 8 + (maxL + 11) + 40 * d ≤ R.locals)
    (is : List Nat) (hC : is.map (fun i => ws[i]?) = w0.map some) (hn : va_nd is = true)
    (hn2 : As.length = n) (hls : ls.size = nL) (hst : st = As.reverse ++ .ref b :: rest) (hrm : (rest.map fun v => v.category).sum ≤ 8) (hdg : decode cc pc = .ok (.invokespecial index, 3)) (hf : cells + mc ≤ R.cells ∧ slots + ms ≤ R.slots) :
    va_Run p l e R s m args below meth c H locs cells slots mc ms (F0 m pc ls st) rest (Qc (Value.ref b :: As).toArray) free :=
  va_runI S hM (cwI n S.2.2.2.2 (x_goodIn _ (x_inC hcode)) rfl rfl rfl (S.2.2.2.2 _ hini) (S.2.2.2.2 _ hlink) (S.2.2.2.2 _ hinst) hy1 hd hR) (x_preS hw is hC hn (.ref b :: As)) rfl hn2 hls hst (lv_room (m := m) (pc := pc) (ls := ls) (rest := st) hrm) hdg hf
theorem x_runIN (S : CallFix p m c cc nL s args xAll own) (hw : xW D tys A H0 H locs ws s) (hM : Met l y (xWs y bytes maxL none) (xR d mc ms) (va_Pc (.ref b :: As) (xPre D tys H.size w0)) Qc mc ms free)
    (hcode : Cond.code y bytes maxL none ∈ xAll) (hlink : Cond.methodLinkNest own index y host ∈ xNest) (hinst : Cond.instanceMethod y ∈ xAll) (hini : Cond.initialized y.cls ∈ xAll) (hy1 : y.name = "<init>")
    (hd : y.cls ≠ "java/lang/invoke/MethodHandle" ∧ y.cls ≠ "java/lang/invoke/VarHandle" ∧ (parseMethodDescriptor y.desc).map (fun d => d.parameters.length) = some n) (hR : d + 1 ≤ R.frames ∧ 8 + (maxL + 11) + 40 * d ≤ R.locals)
    (is : List Nat) (hC : is.map (fun i => ws[i]?) = w0.map some) (hn : va_nd is = true)
    (hn2 : As.length = n) (hls : ls.size = nL) (hst : st = As.reverse ++ .ref b :: rest) (hrm : (rest.map fun v => v.category).sum ≤ 8) (hdg : decode cc pc = .ok (.invokespecial index, 3)) (hf : cells + mc ≤ R.cells ∧ slots + ms ≤ R.slots) :
    va_Run p l e R s m args below meth c H locs cells slots mc ms (F0 m pc ls st) rest (Qc (Value.ref b :: As).toArray) free :=
  va_runIN S hM ⟨va_cnB n S.2.2.2.2 (x_goodIn _ (x_inC hcode)) rfl rfl rfl (hw.1.2.1 _ hlink) (S.2.2.2.2 _ hini) hd hR, hy1, S.2.2.2.2 _ hinst⟩ (x_preS hw is hC hn (.ref b :: As)) rfl hn2 hls hst (lv_room (m := m) (pc := pc) (ls := ls) (rest := st) hrm) hdg hf
/-- what the caller has behind a call -/
theorem x_back (hw : xW D tys A H0 H locs ws s) (is : List Nat) (hC : is.map (fun i => ws[i]?) = w0.map some) (hn : va_nd is = true) {u : va_W} {t : State} {H1 : Heap} {locs1 : List Loc} (ht : t.heap = H1) (hB : xB D (va_A w0 H.size) u t) (hk : ∀ q : Nat, q < H.size → ¬ va_A w0 H.size q → H1[q]? = H[q]?) (hS : va_S A H0 H1 locs1) :
    ∀ a b : va_W, u = a ++ b → a.map Prod.fst = w0.map Prod.fst → xW D tys A H0 H1 locs1 (x_set ws is a ++ b) s := by
  intro a b hu hf
  subst hu
  obtain ⟨hP1, hD1⟩ := hB
  rw [ht] at hP1
  obtain ⟨h1, h2⟩ := x_join hw.2.1 hw.2.2.1 is hC hn hf hk (x_free hw is hC) hP1 hD1
  exact ⟨hw.1, h1, h2, hS, hw.2.2.2.2⟩
variable {av : Array Value}
theorem x_calli {post : Int32 → va_W → Prop} (hw : xW D tys A H0 H locs ws s) (is : List Nat) (hC : is.map (fun i => ws[i]?) = w0.map some) (hn : va_nd is = true) (hr : va_Run p l e R s m args below meth c H locs cells slots mc ms (F0 m pc ls st) rest (va_Qi post (xB D (va_A w0 H.size)) (va_A w0 H.size) av) (va_A w0 H.size))
    (kk : ∀ (r : Int32) (u : va_W) (H1 : Heap) (locs1 : List Loc), post r u → (∀ a b : va_W, u = a ++ b → a.map Prod.fst = w0.map Prod.fst → xW D tys A H0 H1 locs1 (x_set ws is a ++ b) s) → W p l e R s m args below meth c H1 locs1 (cells + mc) (slots + ms) Q (F0 m (pc + 3) ls (.int r :: rest))) : W p l e R s m args below meth c H locs cells slots Q (F0 m pc ls st) :=
  va_calli hr hw.2.2.2.1 (fun q _ h => x_free hw is hC q h) (x_free hw is hC) (fun r u _ H1 locs1 ht _ hp hB _ hk hS => kk r u H1 locs1 hp (x_back hw is hC hn ht hB hk hS))
theorem x_calll {post : Int64 → va_W → Prop} (hw : xW D tys A H0 H locs ws s) (is : List Nat) (hC : is.map (fun i => ws[i]?) = w0.map some) (hn : va_nd is = true) (hr : va_Run p l e R s m args below meth c H locs cells slots mc ms (F0 m pc ls st) rest (va_Ql post (xB D (va_A w0 H.size)) (va_A w0 H.size) av) (va_A w0 H.size))
    (kk : ∀ (r : Int64) (u : va_W) (H1 : Heap) (locs1 : List Loc), post r u → (∀ a b : va_W, u = a ++ b → a.map Prod.fst = w0.map Prod.fst → xW D tys A H0 H1 locs1 (x_set ws is a ++ b) s) → W p l e R s m args below meth c H1 locs1 (cells + mc) (slots + ms) Q (F0 m (pc + 3) ls (.long r :: rest))) : W p l e R s m args below meth c H locs cells slots Q (F0 m pc ls st) :=
  va_calll hr hw.2.2.2.1 (fun q _ h => x_free hw is hC q h) (x_free hw is hC) (fun r u _ H1 locs1 ht _ hp hB _ hk hS => kk r u H1 locs1 hp (x_back hw is hC hn ht hB hk hS))
theorem x_callv {post : va_W → Prop} (hw : xW D tys A H0 H locs ws s) (is : List Nat) (hC : is.map (fun i => ws[i]?) = w0.map some) (hn : va_nd is = true) (hr : va_Run p l e R s m args below meth c H locs cells slots mc ms (F0 m pc ls st) rest (va_Qv post (xB D (va_A w0 H.size)) (va_A w0 H.size) av) (va_A w0 H.size))
    (kk : ∀ (u : va_W) (H1 : Heap) (locs1 : List Loc), post u → (∀ a b : va_W, u = a ++ b → a.map Prod.fst = w0.map Prod.fst → xW D tys A H0 H1 locs1 (x_set ws is a ++ b) s) → W p l e R s m args below meth c H1 locs1 (cells + mc) (slots + ms) Q (F0 m (pc + 3) ls rest)) : W p l e R s m args below meth c H locs cells slots Q (F0 m pc ls st) :=
  va_callv hr hw.2.2.2.1 (fun q _ h => x_free hw is hC q h) (x_free hw is hC) (fun u _ H1 locs1 ht _ hp hB _ hk hS => kk u H1 locs1 hp (x_back hw is hC hn ht hB hk hS))
theorem x_callq {post : Option Nat → va_W → Prop} (hw : xW D tys A H0 H locs ws s) (is : List Nat) (hC : is.map (fun i => ws[i]?) = w0.map some) (hn : va_nd is = true) (hr : va_Run p l e R s m args below meth c H locs cells slots mc ms (F0 m pc ls st) rest (va_Qq post (xB D (va_A w0 H.size)) (va_A w0 H.size) av) (va_A w0 H.size))
    (kk : ∀ (r : Option Nat) (u : va_W) (H1 : Heap) (locs1 : List Loc), post r u → (∀ a b : va_W, u = a ++ b → a.map Prod.fst = w0.map Prod.fst → xW D tys A H0 H1 locs1 (x_set ws is a ++ b) s) → W p l e R s m args below meth c H1 locs1 (cells + mc) (slots + ms) Q (F0 m (pc + 3) ls (va_rf r :: rest))) : W p l e R s m args below meth c H locs cells slots Q (F0 m pc ls st) :=
  va_callq hr hw.2.2.2.1 (fun q _ h => x_free hw is hC q h) (x_free hw is hC) (fun r u _ H1 locs1 ht _ hp hB _ hk hS => kk r u H1 locs1 hp (x_back hw is hC hn ht hB hk hS))
/-- the same, where the answer and the world behind are known -/
theorem x_calliD {r0 : Int32} {w1 ws' : va_W} (hw : xW D tys A H0 H locs ws s) (is : List Nat) (hC : is.map (fun i => ws[i]?) = w0.map some) (hn : va_nd is = true) (hr : va_Run p l e R s m args below meth c H locs cells slots mc ms (F0 m pc ls st) rest (va_Qi (fun r u => r = r0 ∧ u = w1) (xB D (va_A w0 H.size)) (va_A w0 H.size) av) (va_A w0 H.size)) (hf : w1.map Prod.fst = w0.map Prod.fst) (hs : x_set ws is w1 = ws')
    (kk : ∀ (H1 : Heap) (locs1 : List Loc), xW D tys A H0 H1 locs1 ws' s → W p l e R s m args below meth c H1 locs1 (cells + mc) (slots + ms) Q (F0 m (pc + 3) ls (.int r0 :: rest))) : W p l e R s m args below meth c H locs cells slots Q (F0 m pc ls st) :=
  x_calli hw is hC hn hr (fun r u H1 locs1 hp hx => by
    obtain ⟨hp1, hp2⟩ := hp
    subst hp1
    have h := hx w1 [] (by rw [hp2, List.append_nil]) hf
    rw [List.append_nil, hs] at h
    exact kk H1 locs1 h)
theorem x_calllD {r0 : Int64} {w1 ws' : va_W} (hw : xW D tys A H0 H locs ws s) (is : List Nat) (hC : is.map (fun i => ws[i]?) = w0.map some) (hn : va_nd is = true) (hr : va_Run p l e R s m args below meth c H locs cells slots mc ms (F0 m pc ls st) rest (va_Ql (fun r u => r = r0 ∧ u = w1) (xB D (va_A w0 H.size)) (va_A w0 H.size) av) (va_A w0 H.size)) (hf : w1.map Prod.fst = w0.map Prod.fst) (hs : x_set ws is w1 = ws')
    (kk : ∀ (H1 : Heap) (locs1 : List Loc), xW D tys A H0 H1 locs1 ws' s → W p l e R s m args below meth c H1 locs1 (cells + mc) (slots + ms) Q (F0 m (pc + 3) ls (.long r0 :: rest))) : W p l e R s m args below meth c H locs cells slots Q (F0 m pc ls st) :=
  x_calll hw is hC hn hr (fun r u H1 locs1 hp hx => by
    obtain ⟨hp1, hp2⟩ := hp
    subst hp1
    have h := hx w1 [] (by rw [hp2, List.append_nil]) hf
    rw [List.append_nil, hs] at h
    exact kk H1 locs1 h)
theorem x_callvD {w1 ws' : va_W} (hw : xW D tys A H0 H locs ws s) (is : List Nat) (hC : is.map (fun i => ws[i]?) = w0.map some) (hn : va_nd is = true) (hr : va_Run p l e R s m args below meth c H locs cells slots mc ms (F0 m pc ls st) rest (va_Qv (fun u => u = w1) (xB D (va_A w0 H.size)) (va_A w0 H.size) av) (va_A w0 H.size)) (hf : w1.map Prod.fst = w0.map Prod.fst) (hs : x_set ws is w1 = ws')
    (kk : ∀ (H1 : Heap) (locs1 : List Loc), xW D tys A H0 H1 locs1 ws' s → W p l e R s m args below meth c H1 locs1 (cells + mc) (slots + ms) Q (F0 m (pc + 3) ls rest)) : W p l e R s m args below meth c H locs cells slots Q (F0 m pc ls st) :=
  x_callv hw is hC hn hr (fun u H1 locs1 hp hx => by
    have h := hx w1 [] (by rw [hp, List.append_nil]) hf
    rw [List.append_nil, hs] at h
    exact kk H1 locs1 h)
theorem x_callqD {r0 : Option Nat} {w1 ws' : va_W} {v : Value} (hw : xW D tys A H0 H locs ws s) (is : List Nat) (hC : is.map (fun i => ws[i]?) = w0.map some) (hn : va_nd is = true) (hr : va_Run p l e R s m args below meth c H locs cells slots mc ms (F0 m pc ls st) rest (va_Qq (fun r u => r = r0 ∧ u = w1) (xB D (va_A w0 H.size)) (va_A w0 H.size) av) (va_A w0 H.size)) (hf : w1.map Prod.fst = w0.map Prod.fst) (hs : x_set ws is w1 = ws') (hv : va_rf r0 = v)
    (kk : ∀ (H1 : Heap) (locs1 : List Loc), xW D tys A H0 H1 locs1 ws' s → W p l e R s m args below meth c H1 locs1 (cells + mc) (slots + ms) Q (F0 m (pc + 3) ls (v :: rest))) : W p l e R s m args below meth c H locs cells slots Q (F0 m pc ls st) :=
  x_callq hw is hC hn hr (fun r u H1 locs1 hp hx => by
    obtain ⟨hp1, hp2⟩ := hp
    subst hp1
    subst hv
    have h := hx w1 [] (by rw [hp2, List.append_nil]) hf
    rw [List.append_nil, hs] at h
    exact kk H1 locs1 h)
end XC
