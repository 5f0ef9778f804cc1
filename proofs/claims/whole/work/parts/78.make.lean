/-! ===== MAKING: a constructor's walk; its world is a list, the new object first ===== -/
abbrev gT : Type := ClassId × ClassId × ClassId
abbrev T3 (t : gT) : List (ClassId × FieldType) := [(t.1, .int), (t.2.1, .long), (t.2.2, .object "SoldYear$Sheet")]
/-- what the tables say all along -/
def kT (D : va_G) (t : gT) (sq : Nat) (U : State) : Prop := va_K D vwCl (T3 t) U ∧ (∀ w ∈ nstG, va_Nw w U) ∧ vk_R "SoldYear$Scribe" 18 "" sq U ∧ va_AO "SoldYear$Sheet" U
theorem kT.warm {D : va_G} {t : gT} {sq : Nat} {s U : State} (hW : s.WarmedH U.vm) (h : kT D t sq s) : kT D t sq U := by
  obtain ⟨h1, h2, h3, h4⟩ := h
  exact ⟨h1.moved hW.alike, fun w hw => nst_warm hW (nst_is hw) (h2 w hw), h3.warm hW, h4.moved hW.alike⟩
theorem kT.same {D : va_G} {t : gT} {sq : Nat} {s U : State} (hv : U.vm = s.vm) (h : kT D t sq s) : kT D t sq U := by
  have ha : s.vm.Alike U.vm := by rw [hv]; exact Vm.Alike.refl _
  obtain ⟨h1, h2, h3, h4⟩ := h
  exact ⟨h1.moved ha, fun w hw => nst_same hv.symm (nst_is hw) (h2 w hw), h3.same hv, h4.moved ha⟩
def KC (md : gM) (p : Program) (s : State) (m : MethodId) (args : Array Value) (meth : Method) (c : Code) (D : va_G) (t : gT) (sq : Nat) (A : Nat → Prop) : Prop :=
  p.tables.exec = Jvm.exec ∧ c.code = md.2.1 ∧ c.maxLocals = md.2.2.1 ∧ s.vm.findClass md.1.cls = some m.cls ∧ (∀ w ∈ tblG, w.before args s = true) ∧ kT D t sq s ∧ (∀ q, s.heap.size ≤ q → A q) ∧ meth.name = md.1.name
def ST (D : va_G) (A : Nat → Prop) (s : State) (ws : va_W) (H : Heap) (locs : List Loc) : Prop := va_P D vwCl ws H ∧ va_D A ws ∧ va_S A s.heap H locs
/-- a field that a constructor writes -/
def FFK (own : String) (idx ci k : Nat) (ty : FieldType) : Prop := ∃ (C : String) (T : u_T) (N : Nat) (ty0 : Nat → FieldType), vwCl[ci]? = some (C, T, N) ∧ k < N ∧ (∀ w ∈ u_ws C T N, w ∈ tblG) ∧ Cond.fieldLink own idx (T k).1 (T k).2.1 (T k).2.2.1 ∈ tblG ∧
  (∀ k, k < N → parseFieldDescriptor (T k).2.2.1 = some (ty0 k)) ∧ (∀ a, a < N → ∀ b, b < N → a ≠ b → (T a).2.1 ≠ (T b).2.1) ∧ parseFieldDescriptor (T k).2.2.1 = some ty ∧ (T k).1 = own
/-- a class that is made -/
def NCK (own : String) (idx ci N : Nat) (ty : Nat → FieldType) : Prop := ∃ (C : String) (T : u_T), vwCl[ci]? = some (C, T, N) ∧ (∀ w ∈ u_ws C T N, w ∈ tblG) ∧ (∀ k, k < N → parseFieldDescriptor (T k).2.2.1 = some (ty k)) ∧ Cond.classLink own idx C ∈ tblG ∧ Cond.instantiable C N ∈ tblG ∧ Cond.initialized C ∈ tblG
def f0 (N : Nat) (ty : Nat → FieldType) : List Value := (List.range N).map (fun j => defaultValue (ty j))
theorem f0_at {N : Nat} {ty : Nat → FieldType} (j : Nat) (h : j < N) : defaultValue (ty j) = vp_V (f0 N ty) j := by
  unfold vp_V f0
  rw [List.getD_eq_getElem?_getD, List.getElem?_map, List.getElem?_range h]
  rfl
def ar (t : gT) (q n : Nat) : Nat × va_E := (q, .inl (t.1, n, .inl (fun _ => 0)))
def arL (t : gT) (q n : Nat) : Nat × va_E := (q, .inl (t.2.1, n, .inr (.inl (fun _ => 0))))
theorem va_nd_of : ∀ {l : List Nat}, l.Nodup → va_nd l = true
  | [], _ => rfl
  | a :: l, h => by
    obtain ⟨h1, h2⟩ := List.nodup_cons.mp h
    show (decide (a ∉ l) && va_nd l) = true
    rw [va_nd_of h2]
    simp [h1]
theorem m_newI {p : Program} {l : Launch} {e : Env} {R : Room} {s : State} {m : MethodId} {args : Array Value} {below : List Frame} {meth : Method} {c : Code} {H : Heap} {locs : List Loc} {cells slots : Nat} {Z : State → Prop} {pc pc' : Nat} {ls : Array Slot} {rest : List Value} {D : va_G} {t : gT} {sq : Nat} {A : Nat → Prop} {md : gM} {x0 : Nat × va_E} {tl : va_W} (C : KC md p s m args meth c D t sq A) (S : ST D A s (x0 :: tl) H locs) {n : Int32} {N' : Nat} (hn : ¬ n < 0 ∧ n.toNatClampNeg = N' ∧ N' * 4 ≤ 536870912) (hc : cells + 1 ≤ R.cells ∧ slots + N' ≤ R.slots) (hd : decode md.2.1 pc = .ok (.newarray .int, 2)) (hp : pc + 2 = pc')
    (kk : ∀ (q : Nat) (H1 : Heap), ST D A s (x0 :: (tl ++ [ar t q N'])) H1 locs → W p l e R s m args below meth c H1 locs (cells + 1) (slots + N') Z (F0 m pc' ls (.ref q :: rest))) : W p l e R s m args below meth c H locs cells slots Z (F0 m pc ls (.int n :: rest)) := by
  subst hp
  refine va_newa (atype := .int) (ty := .int) (a0 := (N', .inl (fun _ => 0))) C.1 C.2.1 (C.2.2.2.2.1 _ (tbl_t (List.mem_of_getElem? (i := 60) (by decide +kernel)) rfl)) rfl C.2.2.2.2.2.1.1 S.1 S.2.1 S.2.2 C.2.2.2.2.2.2.1 (fun _ => rfl) hn.1 hn.2.1 hn.2.2 hc.1 hc.2 hd (fun q cA H1 hK1 hP1 hD1 hS1 => ?_)
  have e1 : s.vm.findClass ("[" ++ FieldType.int.toString) = some cA := (hK1.2 3 (cA, .int) rfl).2
  have e2 : s.vm.findClass ("[" ++ FieldType.int.toString) = some t.1 := (hK1.2 0 (t.1, .int) rfl).2
  have e3 : cA = t.1 := Option.some.inj (e1.symm.trans e2)
  subst e3
  exact kk q H1 ⟨hP1, hD1, hS1⟩
theorem m_newL {p : Program} {l : Launch} {e : Env} {R : Room} {s : State} {m : MethodId} {args : Array Value} {below : List Frame} {meth : Method} {c : Code} {H : Heap} {locs : List Loc} {cells slots : Nat} {Z : State → Prop} {pc pc' : Nat} {ls : Array Slot} {rest : List Value} {D : va_G} {t : gT} {sq : Nat} {A : Nat → Prop} {md : gM} {x0 : Nat × va_E} {tl : va_W} (C : KC md p s m args meth c D t sq A) (S : ST D A s (x0 :: tl) H locs) {n : Int32} {N' : Nat} (hn : ¬ n < 0 ∧ n.toNatClampNeg = N' ∧ N' * 8 ≤ 536870912) (hc : cells + 1 ≤ R.cells ∧ slots + N' ≤ R.slots) (hd : decode md.2.1 pc = .ok (.newarray .long, 2)) (hp : pc + 2 = pc')
    (kk : ∀ (q : Nat) (H1 : Heap), ST D A s (x0 :: (tl ++ [arL t q N'])) H1 locs → W p l e R s m args below meth c H1 locs (cells + 1) (slots + N') Z (F0 m pc' ls (.ref q :: rest))) : W p l e R s m args below meth c H locs cells slots Z (F0 m pc ls (.int n :: rest)) := by
  subst hp
  refine va_newa (atype := .long) (ty := .long) (a0 := (N', .inr (.inl (fun _ => 0)))) C.1 C.2.1 (C.2.2.2.2.1 _ (tbl_t (List.mem_of_getElem? (i := 108) (by decide +kernel)) rfl)) rfl C.2.2.2.2.2.1.1 S.1 S.2.1 S.2.2 C.2.2.2.2.2.2.1 (fun _ => rfl) hn.1 hn.2.1 hn.2.2 hc.1 hc.2 hd (fun q cA H1 hK1 hP1 hD1 hS1 => ?_)
  have e1 : s.vm.findClass ("[" ++ FieldType.long.toString) = some cA := (hK1.2 3 (cA, .long) rfl).2
  have e2 : s.vm.findClass ("[" ++ FieldType.long.toString) = some t.2.1 := (hK1.2 1 (t.2.1, .long) rfl).2
  have e3 : cA = t.2.1 := Option.some.inj (e1.symm.trans e2)
  subst e3
  exact kk q H1 ⟨hP1, hD1, hS1⟩
theorem m_newQ {p : Program} {l : Launch} {e : Env} {R : Room} {s : State} {m : MethodId} {args : Array Value} {below : List Frame} {meth : Method} {c : Code} {H : Heap} {locs : List Loc} {cells slots : Nat} {Z : State → Prop} {pc pc' : Nat} {ls : Array Slot} {rest : List Value} {D : va_G} {t : gT} {sq : Nat} {A : Nat → Prop} {md : gM} {x0 : Nat × va_E} {tl : va_W} (C : KC md p s m args meth c D t sq A) (S : ST D A s (x0 :: tl) H locs) {n : Int32} {N' index : Nat} (hk : Cond.classLink md.1.cls index "SoldYear$Sheet" ∈ tblG) (hn : ¬ n < 0 ∧ n.toNatClampNeg = N' ∧ N' * 4 ≤ 536870912) (hc : cells + 1 ≤ R.cells ∧ slots + N' ≤ R.slots) (hd : decode md.2.1 pc = .ok (.anewarray index, 3)) (hp : pc + 3 = pc')
    (kk : ∀ (q : Nat) (H1 : Heap), ST D A s (x0 :: (tl ++ [(q, .inl (t.2.2, N', .inr (.inr (.inr (.inr (fun _ => none))))))])) H1 locs → W p l e R s m args below meth c H1 locs (cells + 1) (slots + N') Z (F0 m pc' ls (.ref q :: rest))) : W p l e R s m args below meth c H locs cells slots Z (F0 m pc ls (.int n :: rest)) := by
  subst hp
  refine va_newq C.1 C.2.1 C.2.2.2.1 (C.2.2.2.2.1 _ hk) C.2.2.2.2.2.1.2.2.2 C.2.2.2.2.2.1.1 S.1 S.2.1 S.2.2 C.2.2.2.2.2.2.1 hn.1 hn.2.1 hn.2.2 hc.1 hc.2 hd (fun q cA H1 hK1 hP1 hD1 hS1 => ?_)
  have e1 : s.vm.findClass ("[" ++ (FieldType.object "SoldYear$Sheet").toString) = some cA := by
    obtain ⟨_, _, _, _, _, h⟩ := (hK1.2 3 (cA, .object "SoldYear$Sheet") rfl).2
    exact h
  have e2 : s.vm.findClass ("[" ++ (FieldType.object "SoldYear$Sheet").toString) = some t.2.2 := by
    obtain ⟨_, _, _, _, _, h⟩ := (hK1.2 2 (t.2.2, .object "SoldYear$Sheet") rfl).2
    exact h
  have e3 : cA = t.2.2 := Option.some.inj (e1.symm.trans e2)
  subst e3
  exact kk q H1 ⟨hP1, hD1, hS1⟩
theorem m_new {p : Program} {l : Launch} {e : Env} {R : Room} {s : State} {m : MethodId} {args : Array Value} {below : List Frame} {meth : Method} {c : Code} {H : Heap} {locs : List Loc} {cells slots : Nat} {Z : State → Prop} {pc pc' : Nat} {ls : Array Slot} {rest : List Value} {D : va_G} {t : gT} {sq : Nat} {A : Nat → Prop} {md : gM} (C : KC md p s m args meth c D t sq A) {ws : va_W} (S : ST D A s ws H locs) {index ci N : Nat} {ty : Nat → FieldType} (hF : NCK md.1.cls index ci N ty) (hc : cells + 1 ≤ R.cells ∧ slots + N ≤ R.slots) (hd : decode md.2.1 pc = .ok (.new index, 3)) (hp : pc + 3 = pc')
    (kk : ∀ (q : Nat) (H1 : Heap), ST D A s (ws ++ [(q, .inr (ci, f0 N ty))]) H1 locs → W p l e R s m args below meth c H1 locs (cells + 1) (slots + N) Z (F0 m pc' ls (.ref q :: rest))) : W p l e R s m args below meth c H locs cells slots Z (F0 m pc ls rest) := by
  subst hp
  obtain ⟨CC, T, h1, h2, h3, h4, h5, h6⟩ := hF
  exact va_new (ci := ci) C.1 C.2.1 C.2.2.2.2.1 h2 ty h3 C.2.2.2.1 (C.2.2.2.2.1 _ h4) (C.2.2.2.2.1 _ h5) (C.2.2.2.2.1 _ h6) C.2.2.2.2.2.1.1 S.1 S.2.1 S.2.2 C.2.2.2.2.2.2.1 h1 (fun j hj => f0_at j hj) hc.1 hc.2 hd (fun q H1 hP1 hD1 hS1 => kk q H1 ⟨hP1, hD1, hS1⟩)
theorem m_put {p : Program} {l : Launch} {e : Env} {R : Room} {s : State} {m : MethodId} {args : Array Value} {below : List Frame} {meth : Method} {c : Code} {H : Heap} {locs : List Loc} {cells slots : Nat} {Z : State → Prop} {pc pc' : Nat} {ls : Array Slot} {rest : List Value} {D : va_G} {t : gT} {sq : Nat} {A : Nat → Prop} {md : gM} {tl : va_W} (C : KC md p s m args meth c D t sq A) {h0 ci k index : Nat} {fs : List Value} {ty : FieldType} {v : Value} (S : ST D A s ((h0, .inr (ci, fs)) :: tl) H locs) (hF : FFK md.1.cls index ci k ty) (hi : md.1.name = "<init>") (hv : narrow ty v = v ∧ fits ty v = true) (hl : Nat.ble (k + 1) fs.length = true) {fs' : List Value} (hs : fs.set k v = fs') (hd : decode md.2.1 pc = .ok (.putfield index, 3)) (hp : pc + 3 = pc')
    (kk : ∀ (H1 : Heap) (locs1 : List Loc), ST D A s ((h0, .inr (ci, fs')) :: tl) H1 locs1 → W p l e R s m args below meth c H1 locs1 cells slots Z (F0 m pc' ls rest)) : W p l e R s m args below meth c H locs cells slots Z (F0 m pc ls (v :: .ref h0 :: rest)) := by
  subst hp hs
  obtain ⟨CC, T, N, ty0, h1, h2, h3, h4, h5, h6, h8, h9⟩ := hF
  have hl' : k < fs.length := Nat.le_of_ble_eq_true hl
  cases hfin : (T k).2.2.2 with
  | true => exact va_putF C.1 C.2.1 C.2.2.2.2.1 h3 ty0 h5 h6 C.2.2.2.1 C.2.2.2.2.2.1.1 S.1 S.2.1 S.2.2 0 rfl h1 k h2 (C.2.2.2.2.1 _ h4) (fun _ q => q) hfin (C.2.2.2.2.2.2.2.trans hi) h9 h8 hv.1 hv.2 hl' hd (fun H1 locs1 hP1 hD1 hS1 => kk H1 locs1 ⟨hP1, hD1, hS1⟩)
  | false => exact va_put C.1 C.2.1 C.2.2.2.2.1 h3 ty0 h5 h6 C.2.2.2.1 C.2.2.2.2.2.1.1 S.1 S.2.1 S.2.2 0 rfl h1 k h2 (C.2.2.2.2.1 _ h4) (fun _ q => q) hfin h8 hv.1 hv.2 hl' hd (fun H1 locs1 hP1 hD1 hS1 => kk H1 locs1 ⟨hP1, hD1, hS1⟩)
theorem m_get {p : Program} {l : Launch} {e : Env} {R : Room} {s : State} {m : MethodId} {args : Array Value} {below : List Frame} {meth : Method} {c : Code} {H : Heap} {locs : List Loc} {cells slots : Nat} {Z : State → Prop} {pc pc' : Nat} {ls : Array Slot} {rest : List Value} {D : va_G} {t : gT} {sq : Nat} {A : Nat → Prop} {md : gM} {tl : va_W} (C : KC md p s m args meth c D t sq A) {h0 ci k index : Nat} {fs : List Value} {ty : FieldType} {v : Value} (S : ST D A s ((h0, .inr (ci, fs)) :: tl) H locs) (hF : FFK md.1.cls index ci k ty) (hv : fs[k]? = some v) (hd : decode md.2.1 pc = .ok (.getfield index, 3)) (hp : pc + 3 = pc')
    (kk : W p l e R s m args below meth c H locs cells slots Z (F0 m pc' ls (v :: rest))) : W p l e R s m args below meth c H locs cells slots Z (F0 m pc ls (.ref h0 :: rest)) := by
  subst hp
  obtain ⟨CC, T, N, ty0, h1, h2, h3, h4, h5, h6, h8, h9⟩ := hF
  exact va_get C.1 C.2.1 C.2.2.2.2.1 h3 C.2.2.2.1 C.2.2.2.2.2.1.1 S.1 0 rfl h1 k h2 (C.2.2.2.2.1 _ h4) (fun _ q => q) hv hd kk
theorem m_iast {p : Program} {l : Launch} {e : Env} {R : Room} {s : State} {m : MethodId} {args : Array Value} {below : List Frame} {meth : Method} {c : Code} {H : Heap} {locs : List Loc} {cells slots : Nat} {Z : State → Prop} {pc pc' : Nat} {ls : Array Slot} {rest : List Value} {D : va_G} {t : gT} {sq : Nat} {A : Nat → Prop} {md : gM} {x0 : Nat × va_E} {tl : va_W} (C : KC md p s m args meth c D t sq A) {a j n : Nat} {f : Nat → Int32} {i x : Int32} (S : ST D A s (x0 :: tl) H locs) (ha : tl[j]? = some (a, .inl (t.1, n, .inl f))) {i' : Nat} (hi : i.toNatClampNeg = i') (hin : vp_in i n) (hd : decode md.2.1 pc = .ok (.iastore, 1)) (hp : pc + 1 = pc')
    (kk : ∀ (H1 : Heap) (locs1 : List Loc), ST D A s (x0 :: tl.set j (a, .inl (t.1, n, .inl (upd f i' x)))) H1 locs1 → W p l e R s m args below meth c H1 locs1 cells slots Z (F0 m pc' ls rest)) : W p l e R s m args below meth c H locs cells slots Z (F0 m pc ls (.int x :: .int i :: .ref a :: rest)) := by
  subst hp hi
  exact va_iast C.1 C.2.1 C.2.2.2.2.2.1.1 S.1 S.2.1 S.2.2 (j + 1) 0 ha rfl hin hd (fun H1 locs1 hP1 hD1 hS1 => kk H1 locs1 ⟨hP1, hD1, hS1⟩)
theorem m_astq {p : Program} {l : Launch} {e : Env} {R : Room} {s : State} {m : MethodId} {args : Array Value} {below : List Frame} {meth : Method} {c : Code} {H : Heap} {locs : List Loc} {cells slots : Nat} {Z : State → Prop} {pc pc' : Nat} {ls : Array Slot} {rest : List Value} {D : va_G} {t : gT} {sq : Nat} {A : Nat → Prop} {md : gM} {x0 : Nat × va_E} {tl : va_W} (C : KC md p s m args meth c D t sq A) {a j jk n v : Nat} {vs : List Value} {f : Nat → Option Nat} {i : Int32} (S : ST D A s (x0 :: tl) H locs) (ha : tl[j]? = some (a, .inl (t.2.2, n, .inr (.inr (.inr (.inr f)))))) (hv : tl[jk]? = some (v, .inr (5, vs))) {i' : Nat} (hi : i.toNatClampNeg = i') (hin : vp_in i n) (hd : decode md.2.1 pc = .ok (.aastore, 1)) (hp : pc + 1 = pc')
    (kk : ∀ (H1 : Heap) (locs1 : List Loc), ST D A s (x0 :: tl.set j (a, .inl (t.2.2, n, .inr (.inr (.inr (.inr (va_up f i' (some v)))))))) H1 locs1 → W p l e R s m args below meth c H1 locs1 cells slots Z (F0 m pc' ls rest)) : W p l e R s m args below meth c H locs cells slots Z (F0 m pc ls (.ref v :: .int i :: .ref a :: rest)) := by
  subst hp hi
  exact va_astq (r := (RX5, TX5, 3)) (ci := 5) C.1 C.2.1 C.2.2.2.2.2.1.1 S.1 S.2.1 S.2.2 (j + 1) 2 (jk + 1) ha rfl hv rfl hin hd (fun H1 locs1 hP1 hD1 hS1 => kk H1 locs1 ⟨hP1, hD1, hS1⟩)
theorem m_obj {p : Program} {l : Launch} {e : Env} {R : Room} {s : State} {m : MethodId} {args : Array Value} {below : List Frame} {meth : Method} {c : Code} {H : Heap} {locs : List Loc} {cells slots : Nat} {Z : State → Prop} {pc pc' : Nat} {ls : Array Slot} {D : va_G} {t : gT} {sq : Nat} {A : Nat → Prop} {md : gM} (C : KC md p s m args meth c D t sq A) {index a : Nat} (hk : Cond.methodLink md.1.cls index Lib.objectInit ∈ tblG) (hl : lv_has ls md.2.2.1 [(0, .ref a)]) (hR : 1 ≤ R.frames ∧ 12 ≤ R.locals) (hd : decode md.2.1 pc = .ok (.invokespecial index, 3)) (hp : pc + 3 = pc')
    (kk : W p l e R s m args below meth c H locs cells slots Z (F0 m pc' ls [])) : W p l e R s m args below meth c H locs cells slots Z (F0 m pc ls [.ref a]) := by
  subst hp
  exact W.objInit C.1 C.2.1 C.2.2.2.1 (C.2.2.2.2.1 _ hk) (C.2.2.2.2.1 _ (tbl_t (List.mem_of_getElem? (i := 25) (by decide +kernel)) rfl)) (C.2.2.2.2.1 _ (tbl_t (List.mem_of_getElem? (i := 26) (by decide +kernel)) rfl)) (g := F0 m pc ls [.ref a]) rfl (hl.1.trans C.2.2.1.symm) rfl hd hR.1 hR.2 kk
/-- a constructor's contract: rooms, cells and slots that it needs; its class, its fields when it begins; what its world is when it ends -/
def Mk (md : gM) (fr lo mc ms ci : Nat) (fs0 : List Value) (Wp : gT → Nat → Nat → va_W → Prop) : Prop :=
  ∀ (l : Launch) (D : va_G) (t : gT) (sq h0 sz : Nat), Met l md.1 (wsM md) { frames := fr, cells := mc, slots := ms, locals := lo }
    (va_Pc [.ref h0] (fun U => U.heap.size = sz ∧ va_P D vwCl [(h0, .inr (ci, fs0))] U.heap ∧ kT D t sq U))
    (va_Qv (fun w : va_W => Wp t sq h0 w) (fun w u => va_P D vwCl w u.heap ∧ va_D (va_A [(h0, .inr (ci, fs0))] sz) w) (va_A [(h0, .inr (ci, fs0))] sz)) mc ms (va_A [(h0, .inr (ci, fs0))] sz)
theorem Mk.intro {md : gM} {fr lo mc ms ci : Nat} {fs0 : List Value} {Wp : gT → Nat → Nat → va_W → Prop} (hpl : plainName md.1.cls = true) (hret : md.2.2.2 = none) (hml : 1 ≤ md.2.2.1)
    (k : ∀ (p : Program) (l : Launch) (e : Env) (s : State) (m : MethodId) (args : Array Value) (below : List Frame) (meth : Method) (c : Code) (D : va_G) (t : gT) (sq h0 : Nat) (A : Nat → Prop) (Z : State → Prop), KC md p s m args meth c D t sq A →
      (∀ (w : va_W) (H : Heap) (locs : List Loc) (pc1 : Nat) (ls : Array Slot), Wp t sq h0 w → ST D A s w H locs → decode md.2.1 pc1 = .ok (.return_, 1) → W p l e { frames := fr, cells := mc, slots := ms, locals := lo } s m args below meth c H locs mc ms Z (F0 m pc1 ls [])) →
      ∀ (H : Heap) (locs : List Loc) (ls : Array Slot), ST D A s [(h0, .inr (ci, fs0))] H locs → lv_has ls md.2.2.1 [(0, .ref h0)] → W p l e { frames := fr, cells := mc, slots := ms, locals := lo } s m args below meth c H locs 0 0 Z (F0 m 0 ls [])) : Mk md fr lo mc ms ci fs0 Wp := by
  intro l D t sq h0 sz
  refine Met.ofW (cc := md.2.1) (maxL := md.2.2.1) (ret := md.2.2.2) hpl rfl ?_
  intro p e s m args below meth c s₁ B hml' hv
  obtain ⟨rfl, rfl, hP, hK⟩ := hv
  have hts := atoms_spec (ws := wsM md) B.pre
  have hown : s.vm.findClass md.1.cls = some m.cls := findClass_of_methodNamed B.named
  have hx := B.exec
  have hb := B.bytes
  have hr := B.returns
  have hlocks := B.notSynchronized
  have hnm : meth.name = md.1.name := (name_of_methodNamed B.named B.method).1
  have hl := lv_entry [Value.ref h0] (n := md.2.2.1) hml
  rw [lg_entry_eq]
  generalize (lg_sl [Value.ref h0] ++ List.replicate (md.2.2.1 - (lg_sl [Value.ref h0]).length) Slot.unset).toArray = ls at hl ⊢
  have hD : va_D (va_A [(h0, .inr (ci, fs0))] s.heap.size) [(h0, .inr (ci, fs0))] := by
    refine ⟨fun i j q r hi hj _ => ?_, fun i q hi => Or.inl ⟨i, q.2, hi⟩⟩
    have h1 := (List.getElem?_eq_some_iff.mp hi).1
    have h2 := (List.getElem?_eq_some_iff.mp hj).1
    have h3 : i < 1 := h1
    have h4 : j < 1 := h2
    omega
  refine k p l e s m _ below meth c D t sq h0 (va_A [(h0, .inr (ci, fs0))] s.heap.size) _ ⟨hx, hb, hml', hown, fun w hw => hts w (List.mem_cons_of_mem _ hw), hK, fun _ q => Or.inr q, hnm⟩ (fun w H locs pc1 ls1 hw hS1 hd => ?_) s.heap [] ls ⟨hP, hD, va_S.rf⟩ hl
  exact W.vret hx hb (hr.trans hret) (fun u hu _ => ⟨⟨w, rfl, hw, by rw [hu]; exact hS1.1, hS1.2.1⟩, hS1.2.2.F hu⟩) hS1.2.2.2.2 hd
theorem m_init {p : Program} {l : Launch} {e : Env} {R : Room} {s : State} {m : MethodId} {args : Array Value} {below : List Frame} {meth : Method} {c : Code} {H : Heap} {locs : List Loc} {cells slots : Nat} {Z : State → Prop} {pc pc' : Nat} {ls : Array Slot} {rest : List Value} {D : va_G} {t : gT} {sq : Nat} {A : Nat → Prop} {md md' : gM} {tl : va_W} {index fr lo mc ms ci q : Nat} {fs0 : List Value} {Wp : gT → Nat → Nat → va_W → Prop}
    (C : KC md p s m args meth c D t sq A) (S : ST D A s (tl ++ [(q, .inr (ci, fs0))]) H locs) (hM : Mk md' fr lo mc ms ci fs0 Wp) (hm : MOK md' 0) (hret : md'.2.2.2 = none) (hi : md'.1.name = "<init>") (hin : Cond.instanceMethod md'.1 ∈ tblG) (hk : LOK md.1.cls index md')
    (hR : fr + 1 ≤ R.frames ∧ 8 + (md'.2.2.1 + 11) + lo ≤ R.locals) (hc : cells + mc ≤ R.cells ∧ slots + ms ≤ R.slots) (hls : ls.size = md.2.2.1) (hcat : (rest.map fun v => v.category).sum ≤ 8) (hd : decode md.2.1 pc = .ok (.invokespecial index, 3)) (hp : pc + 3 = pc')
    (kk : ∀ (w : va_W) (H1 : Heap) (locs1 : List Loc), Wp t sq q w → ST D A s (tl ++ w) H1 locs1 → W p l e R s m args below meth c H1 locs1 (cells + mc) (slots + ms) Z (F0 m pc' ls rest)) : W p l e R s m args below meth c H locs cells slots Z (F0 m pc ls (.ref q :: rest)) := by
  subst hp
  obtain ⟨y, cc, ml, ret⟩ := md'
  cases hret
  obtain ⟨hm1, hm2, hm3, hm4, hm5⟩ := hm
  have hsv : ∀ w ∈ tblG, w.before args s = true := C.2.2.2.2.1
  have hpre : PreS s H (va_Pc [.ref q] (fun U => U.heap.size = H.size ∧ va_P D vwCl [(q, .inr (ci, fs0))] U.heap ∧ kT D t sq U)) [.ref q] := by
    refine ⟨fun _ U g mk h => ⟨h.1, h.2.1, h.2.2.1, kT.same (s := U) rfl h.2.2.2⟩, fun U hU hW => ⟨rfl, by rw [hU], ?_, C.2.2.2.2.2.1.warm hW⟩⟩
    intro k x hx
    have h1 : k < 1 := (List.getElem?_eq_some_iff.mp hx).1
    have h2 : k = 0 := by omega
    subst h2
    cases hx
    rw [hU]
    exact S.1 tl.length _ (by simp)
  have hC : [tl.length].map (fun i => (tl ++ [((q, .inr (ci, fs0)) : Nat × va_E)])[i]?) = ([(q, .inr (ci, fs0))] : va_W).map some := by simp
  have hRt : (List.range tl.length).map (fun i => (tl ++ [((q, .inr (ci, fs0)) : Nat × va_E)])[i]?) = tl.map some := by
    apply List.ext_getElem?
    intro i
    rw [List.getElem?_map, List.getElem?_map]
    rcases Nat.lt_or_ge i tl.length with h | h
    · rw [List.getElem?_range h]
      show some ((tl ++ [_])[i]?) = _
      rw [List.getElem?_append_left h, List.getElem?_eq_getElem h]
      rfl
    · rw [List.getElem?_eq_none (by rw [List.length_range]; exact h), List.getElem?_eq_none h]
      rfl
  have hF := va_free S.2.1 S.2.2 C.2.2.2.2.2.2.1 [tl.length] hC
  have hrun : va_Run p l e R s m args below meth c H locs cells slots mc ms (F0 m pc ls (.ref q :: rest)) rest (va_Qv (fun w : va_W => Wp t sq q w) (fun w u => va_P D vwCl w u.heap ∧ va_D (va_A [(q, .inr (ci, fs0))] H.size) w) (va_A [(q, .inr (ci, fs0))] H.size) [Value.ref q].toArray) (va_A [(q, .inr (ci, fs0))] H.size) := by
    rcases hk with h | ⟨host, h⟩
    · exact va_runI (Ts := tblG) (own := md.1.cls) (As := []) ⟨C.1, C.2.1, C.2.2.1, C.2.2.2.1, hsv⟩ (hM l D t sq q H.size) (cwI 0 hsv (ws_good (y, cc, ml, none) hm1) rfl rfl rfl (hsv _ hm2) (hsv _ h) (hsv _ hin) hi hm3 hR) hpre rfl rfl hls rfl (lv_room hcat) hd hc
    · exact va_runIN (Ts := tblG) (own := md.1.cls) (As := []) ⟨C.1, C.2.1, C.2.2.1, C.2.2.2.1, hsv⟩ (hM l D t sq q H.size) ⟨va_cnB (Ts := tblG) 0 hsv (ws_good (y, cc, ml, none) hm1) rfl rfl rfl (C.2.2.2.2.2.1.2.1 _ h) (hsv _ hm2) hm3 hR, hi, hsv _ hin⟩ hpre rfl rfl hls rfl (lv_room hcat) hd hc
  refine va_callv hrun S.2.2 (fun x _ h => hF x h) hF (fun w u H1 locs1 hu hal hw hB hsz hkeep hS1 => ?_)
  subst hu
  obtain ⟨j1, j2⟩ := va_join (isC := [tl.length]) (isR := List.range tl.length) S.1 S.2.1 hC hRt (va_nd_of List.nodup_range) (fun i hi hi' => by
    have h1 := List.mem_range.mp hi
    have h2 := List.mem_singleton.mp hi'
    omega) hkeep hF hB.1 hB.2
  exact kk w u.heap locs1 hw ⟨j1, j2, hS1⟩
theorem m_new' {p : Program} {l : Launch} {e : Env} {R : Room} {s : State} {m : MethodId} {args : Array Value} {below : List Frame} {meth : Method} {c : Code} {H : Heap} {locs : List Loc} {cells slots : Nat} {Z : State → Prop} {pc pc' : Nat} {ls : Array Slot} {rest : List Value} {D : va_G} {t : gT} {sq : Nat} {A : Nat → Prop} {md : gM} {x0 : Nat × va_E} {tl : va_W} (C : KC md p s m args meth c D t sq A) (S : ST D A s (x0 :: tl) H locs) {index ci N : Nat} {ty : Nat → FieldType} (hF : NCK md.1.cls index ci N ty) (hc : cells + 1 ≤ R.cells ∧ slots + N ≤ R.slots) (hd : decode md.2.1 pc = .ok (.new index, 3)) (hp : pc + 3 = pc')
    (kk : ∀ (q : Nat) (H1 : Heap), ST D A s (x0 :: (tl ++ [(q, .inr (ci, f0 N ty))])) H1 locs → W p l e R s m args below meth c H1 locs (cells + 1) (slots + N) Z (F0 m pc' ls (.ref q :: rest))) : W p l e R s m args below meth c H locs cells slots Z (F0 m pc ls rest) := m_new C S hF hc hd hp kk
theorem m_init' {p : Program} {l : Launch} {e : Env} {R : Room} {s : State} {m : MethodId} {args : Array Value} {below : List Frame} {meth : Method} {c : Code} {H : Heap} {locs : List Loc} {cells slots : Nat} {Z : State → Prop} {pc pc' : Nat} {ls : Array Slot} {rest : List Value} {D : va_G} {t : gT} {sq : Nat} {A : Nat → Prop} {md : gM} {x0 : Nat × va_E} {tl : va_W} {md' : gM} {index fr lo mc ms ci q : Nat} {fs0 : List Value} {Wp : gT → Nat → Nat → va_W → Prop}
    (C : KC md p s m args meth c D t sq A) (S : ST D A s (x0 :: (tl ++ [(q, .inr (ci, fs0))])) H locs) (hM : Mk md' fr lo mc ms ci fs0 Wp) (hm : MOK md' 0) (hret : md'.2.2.2 = none) (hi : md'.1.name = "<init>") (hin : Cond.instanceMethod md'.1 ∈ tblG) (hk : LOK md.1.cls index md')
    (hR : fr + 1 ≤ R.frames ∧ 8 + (md'.2.2.1 + 11) + lo ≤ R.locals) (hc : cells + mc ≤ R.cells ∧ slots + ms ≤ R.slots) (hls : ls.size = md.2.2.1) (hcat : (rest.map fun v => v.category).sum ≤ 8) (hd : decode md.2.1 pc = .ok (.invokespecial index, 3)) (hp : pc + 3 = pc')
    (kk : ∀ (w : va_W) (H1 : Heap) (locs1 : List Loc), Wp t sq q w → ST D A s (x0 :: (tl ++ w)) H1 locs1 → W p l e R s m args below meth c H1 locs1 (cells + mc) (slots + ms) Z (F0 m pc' ls rest)) : W p l e R s m args below meth c H locs cells slots Z (F0 m pc ls (.ref q :: rest)) := m_init (tl := x0 :: tl) C S hM hm hret hi hin hk hR hc hls hcat hd hp kk
