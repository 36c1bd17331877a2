abbrev xT3 (cI cZ cV : ClassId) : List (ClassId × FieldType) := [(cI, .int), (cZ, .boolean), (cV, .object "EscrowedVersions$Version")]
section XM
variable {p : Program} {l : Launch} {e : Env} {R : Room} {s : State} {m : MethodId} {args : Array Value} {below : List Frame} {meth : Method} {c : Code} {H : Heap} {locs : List Loc} {cells slots : Nat} {Q : State → Prop}
variable {cc : ByteArray} {pc nL : Nat} {ls : Array Slot} {rest : List Value} {D : va_G} {A : Nat → Prop} {a : Nat} {tys : List (ClassId × FieldType)} {ws : va_W} {H0 : Heap} {own : String} {cI cZ cV : ClassId}
theorem x_topi {x y : Int32} (h : x = y) (k : W p l e R s m args below meth c H locs cells slots Q (F0 m pc ls (.int y :: rest))) : W p l e R s m args below meth c H locs cells slots Q (F0 m pc ls (.int x :: rest)) := by
  subst h
  exact k
theorem x_newi (S : CallFix p m c cc nL s args xAll own) (hw : xW D (xT3 cI cZ cV) A H0 H locs ws s) (harr : Cond.arrayClass .int ∈ xAll) {n : Int32} {N' : Nat} (hn : ¬ n < 0) (hN : n.toNatClampNeg = N') (hbytes : N' * componentBytes .int ≤ 536870912) (hcells : cells + 1 ≤ R.cells) (hslots : slots + N' ≤ R.slots) {ws' : Nat → va_W} (hs : ∀ q, ws ++ [(q, .inl (cI, N', .inl (fun _ => 0)))] = ws' q) (hdg : decode cc pc = .ok (.newarray .int, 2))
    (kk : ∀ (q : Nat) (H1 : Heap), xW D (xT3 cI cZ cV) A H0 H1 locs (ws' q) s → W p l e R s m args below meth c H1 locs (cells + 1) (slots + N') Q (F0 m (pc + 2) ls (.ref q :: rest))) : W p l e R s m args below meth c H locs cells slots Q (F0 m pc ls (.int n :: rest)) := by
  refine va_newa (atype := .int) (ty := .int) (a0 := (N', .inl (fun _ => 0))) S.1 S.2.1 (S.2.2.2.2 _ harr) rfl hw.1.1 hw.2.1 hw.2.2.1 hw.2.2.2.1 hw.2.2.2.2 (fun _ => rfl) hn hN hbytes hcells hslots hdg (fun q cA H1 hK hP hD hS => ?_)
  have h1 : s.vm.findClass ("[" ++ FieldType.int.toString) = some cA := (hK.2 3 _ rfl).2
  have h2 : s.vm.findClass ("[" ++ FieldType.int.toString) = some cI := (hw.1.1.2 0 _ rfl).2
  have e : cA = cI := Option.some.inj (h1.symm.trans h2)
  subst e
  rw [hs q] at hP hD
  exact kk q H1 ⟨hw.1, hP, hD, hS, hw.2.2.2.2⟩
theorem x_newz (S : CallFix p m c cc nL s args xAll own) (hw : xW D (xT3 cI cZ cV) A H0 H locs ws s) (harr : Cond.arrayClass .boolean ∈ xAll) {n : Int32} {N' : Nat} (hn : ¬ n < 0) (hN : n.toNatClampNeg = N') (hbytes : N' * componentBytes .boolean ≤ 536870912) (hcells : cells + 1 ≤ R.cells) (hslots : slots + N' ≤ R.slots) {ws' : Nat → va_W} (hs : ∀ q, ws ++ [(q, .inl (cZ, N', .inl (fun _ => 0)))] = ws' q) (hdg : decode cc pc = .ok (.newarray .boolean, 2))
    (kk : ∀ (q : Nat) (H1 : Heap), xW D (xT3 cI cZ cV) A H0 H1 locs (ws' q) s → W p l e R s m args below meth c H1 locs (cells + 1) (slots + N') Q (F0 m (pc + 2) ls (.ref q :: rest))) : W p l e R s m args below meth c H locs cells slots Q (F0 m pc ls (.int n :: rest)) := by
  refine va_newa (atype := .boolean) (ty := .boolean) (a0 := (N', .inl (fun _ => 0))) S.1 S.2.1 (S.2.2.2.2 _ harr) rfl hw.1.1 hw.2.1 hw.2.2.1 hw.2.2.2.1 hw.2.2.2.2 (fun _ => rfl) hn hN hbytes hcells hslots hdg (fun q cA H1 hK hP hD hS => ?_)
  have h1 : s.vm.findClass ("[" ++ FieldType.boolean.toString) = some cA := (hK.2 3 _ rfl).2
  have h2 : s.vm.findClass ("[" ++ FieldType.boolean.toString) = some cZ := (hw.1.1.2 1 _ rfl).2
  have e : cA = cZ := Option.some.inj (h1.symm.trans h2)
  subst e
  rw [hs q] at hP hD
  exact kk q H1 ⟨hw.1, hP, hD, hS, hw.2.2.2.2⟩
theorem x_newq (S : CallFix p m c cc nL s args xAll own) (hw : xW D (xT3 cI cZ cV) A H0 H locs ws s) {index : Nat} (hlink : Cond.classLink own index "EscrowedVersions$Version" ∈ xAll) {n : Int32} {N' : Nat} (hn : ¬ n < 0) (hN : n.toNatClampNeg = N') (hbytes : N' * 4 ≤ 536870912) (hcells : cells + 1 ≤ R.cells) (hslots : slots + N' ≤ R.slots) {ws' : Nat → va_W} (hs : ∀ q, ws ++ [(q, .inl (cV, N', .inr (.inr (.inr (.inr (fun _ => none))))))] = ws' q) (hdg : decode cc pc = .ok (.anewarray index, 3))
    (kk : ∀ (q : Nat) (H1 : Heap), xW D (xT3 cI cZ cV) A H0 H1 locs (ws' q) s → W p l e R s m args below meth c H1 locs (cells + 1) (slots + N') Q (F0 m (pc + 3) ls (.ref q :: rest))) : W p l e R s m args below meth c H locs cells slots Q (F0 m pc ls (.int n :: rest)) := by
  refine va_newq S.1 S.2.1 S.2.2.2.1 (S.2.2.2.2 _ hlink) hw.1.2.2 hw.1.1 hw.2.1 hw.2.2.1 hw.2.2.2.1 hw.2.2.2.2 hn hN hbytes hcells hslots hdg (fun q cA H1 hK hP hD hS => ?_)
  obtain ⟨kA, comp, -, -, -, h1⟩ := (hK.2 3 _ rfl).2
  obtain ⟨kB, comp2, -, -, -, h2⟩ := (hw.1.1.2 2 _ rfl).2
  have e : cA = cV := Option.some.inj (h1.symm.trans h2)
  subst e
  rw [hs q] at hP hD
  exact kk q H1 ⟨hw.1, hP, hD, hS, hw.2.2.2.2⟩
theorem x_new (S : CallFix p m c cc nL s args xAll own) (hw : xW D tys A H0 H locs ws s) {C : String} {T : u_T} {N ci index : Nat} (hin : ∀ w ∈ u_ws C T N, w ∈ xAll) (ty : Nat → FieldType) (hty : ∀ k, k < N → parseFieldDescriptor (T k).2.2.1 = some (ty k)) (hc : vwCl[ci]? = some (C, T, N)) (hcl : Cond.classLink own index C ∈ xAll) (hinst : Cond.instantiable C N ∈ xAll) (hini : Cond.initialized C ∈ xAll) {fs : List Value} (hfs : ∀ j, j < N → defaultValue (ty j) = vp_V fs j) (hcells : cells + 1 ≤ R.cells) (hslots : slots + N ≤ R.slots) {ws' : Nat → va_W} (hs : ∀ q, ws ++ [(q, .inr (ci, fs))] = ws' q) (hdg : decode cc pc = .ok (.new index, 3))
    (kk : ∀ (q : Nat) (H1 : Heap), xW D tys A H0 H1 locs (ws' q) s → W p l e R s m args below meth c H1 locs (cells + 1) (slots + N) Q (F0 m (pc + 3) ls (.ref q :: rest))) : W p l e R s m args below meth c H locs cells slots Q (F0 m pc ls rest) := by
  refine va_new S.1 S.2.1 S.2.2.2.2 hin ty hty S.2.2.2.1 (S.2.2.2.2 _ hcl) (S.2.2.2.2 _ hinst) (S.2.2.2.2 _ hini) hw.1.1 hw.2.1 hw.2.2.1 hw.2.2.2.1 hw.2.2.2.2 hc hfs hcells hslots hdg (fun q H1 hP hD hS => ?_)
  rw [hs q] at hP hD
  exact kk q H1 ⟨hw.1, hP, hD, hS, hw.2.2.2.2⟩
end XM
