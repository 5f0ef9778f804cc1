/-! calls, and how a contract begins -/
theorem nst_warm {s U : State} (hW : s.WarmedH U.vm) {w : Cond} (hw : isNst w = true) (h : va_Nw w s) : va_Nw w U := by
  cases w
  all_goals first
    | exact va_Nw.warmM hW h
    | exact va_Nw.warmF hW h
    | (simp [isNst] at hw; done)
theorem nst_same {u U : State} (hv : u.vm = U.vm) {w : Cond} (hw : isNst w = true) (h : va_Nw w u) : va_Nw w U := by
  cases w
  all_goals first
    | exact va_Nw.same rfl hv h
    | (simp [isNst] at hw; done)
theorem nst_is {w : Cond} (h : w ∈ nstG) : isNst w = true := (List.mem_filter.mp h).2
theorem tbl_good {w : Cond} (h : w ∈ tblG) : (w.onTables && w.keeps) = true ∨ ∃ ty, w = .arrayClass ty := good_of_word (List.mem_filter.mp h).2
theorem tbl_in {w : Cond} (h : w ∈ lw_tbl) (hg : goodWord w = true) : w ∈ tblG := List.mem_filter.mpr ⟨h, hg⟩
theorem tbl_t {w : Cond} (h : w ∈ tables_1) (hg : goodWord w = true) : w ∈ tblG := tbl_in (List.mem_append_right _ h) hg
theorem tbl_p {w : Cond} (h : w ∈ k2_sels lw_privs) (hg : goodWord w = true) : w ∈ tblG := tbl_in (List.mem_append_left _ h) hg
theorem nst_in {w : Cond} (h : w ∈ tables_1) (hg : isNst w = true) : w ∈ nstG := List.mem_filter.mpr ⟨h, hg⟩
theorem WPU.calling {xs : gX} {G : gG} {M : Mem} {U : State} (g : JFrame) (mk : MethodId) (a : Array Value) (h : WPU xs G M U) : WPU xs G M (U.calling g mk a) :=
  ⟨h.1, va_K.moved (u := U) (U := U.calling g mk a) (Vm.Alike.refl U.vm) h.2.1, CT.same (s := U) (U := U.calling g mk a) rfl h.2.2.1, fun w hw => nst_same (u := U) (U := U.calling g mk a) rfl (nst_is hw) (h.2.2.2 w hw)⟩
theorem pcm_blind (xs : gX) (G : gG) (av : List Value) (M : Mem) : FrameBlind (PcM xs G av M) := fun _ _ g mk h => ⟨h.1, h.2.calling g mk _⟩
theorem wpu_at {xs : gX} {d : Nat} {md : gM} {p : Program} {R : Room} {s : State} {m : MethodId} {args : Array Value} {c : Code} {G : gG} {A : Nat → Prop} {cells slots : Nat} (cx : Cx xs d md p R s m args c G A cells slots) {M : Mem} {H : Heap} {locs : List Loc} (hP : WP G A M H) (hS : va_S A s.heap H locs) {U : State} (hU : U.heap = H) (hW : s.WarmedH U.vm) : WPU xs G M U := by
  refine ⟨?_, va_K.moved hW.alike cx.2.2.2.2.2.2.2.1, ?_, fun w hw => nst_warm hW (nst_is hw) (cx.2.2.2.2.2.1 w hw)⟩
  · rw [hU]
    refine ⟨hP.1, hP.2.weaken (fun k q hk _ => ?_)⟩
    rcases Nat.lt_or_ge k 82 with hl | hl
    · rw [ws_at G M hl] at hk
      cases hk
      exact ⟨k, hl, rfl⟩
    · rw [wsG, List.getElem?_eq_none (by rw [List.length_map, List.length_range]; exact hl)] at hk
      cases hk
  · rw [hU]
    exact ((cx.2.2.2.2.2.2.2.2.1.kept hS.2.1).narrow cx.2.2.2.2.2.2.2.2.2.1).warm hW
theorem gw_after {xs : gX} {d : Nat} {md : gM} {p : Program} {l : Launch} {e : Env} {R : Room} {s : State} {m : MethodId} {args : Array Value} {below : List Frame} {meth : Method} {c : Code} {G : gG} {A : Nat → Prop} {cells slots : Nat} {Z : State → Prop} (cx : Cx xs d md p R s m args c G A cells slots)
    {H : Heap} {locs : List Loc} {pc : Nat} {ls : Array Slot} {st0 rest : List Value} {a : Array Value} {Q : Option Value → Mem → Prop} (hr : va_Run p l e R s m args below meth c H locs cells slots 0 0 (F0 m pc ls st0) rest (QcM G Q a) (AW G)) (hS : va_S A s.heap H locs)
    (kk : ∀ (r : Option Value) (M1 : Mem) (H1 : Heap) (locs1 : List Loc), Q r M1 → WP G A M1 H1 → va_S A s.heap H1 locs1 → W p l e R s m args below meth c H1 locs1 cells slots Z (F0 m (pc + 3) ls ((r.map (cvV G)).toList ++ rest))) :
    W p l e R s m args below meth c H locs cells slots Z (F0 m pc ls st0) := by
  intro T hT X
  obtain ⟨v, st₀, t, T', L, h0, X', hL, e1, e2, ⟨r, M1, hv, hq, hw, hz, hk⟩, st⟩ := hr T hT X
  have hv' : v = r.map (cvV G) := by injection hv
  subst hv'
  rw [h0] at hz hk
  have hA := cx.2.2.2.2.2.2.2.2.2.1
  obtain ⟨t2, a1, b1⟩ := kk r M1 T'.heap (locs ++ L) hq ⟨by rw [e1]; exact hw.1, hw.2.weaken (fun _ _ _ q => hA _ q)⟩
    ⟨Nat.le_trans hS.1 (by rw [e1]; exact hz), fun q h1 h2 => by rw [e1, hk q (Nat.lt_of_lt_of_le h1 hS.1) (fun z => h2 (hA q z))]; exact hS.2.1 q h1 h2, fun q hq => by
      rcases List.mem_append.mp hq with h | h
      · exact hS.2.2 q h
      · exact hA _ (hL q h)⟩ T' rfl X'
  exact ⟨t2, st t2 a1, b1⟩
/-- a method, by the tables -/
def MOK (md : gM) (n : Nat) : Prop := Cond.code md.1 md.2.1 md.2.2.1 md.2.2.2 ∈ tblG ∧ Cond.initialized md.1.cls ∈ tblG ∧ (md.1.cls ≠ "java/lang/invoke/MethodHandle" ∧ md.1.cls ≠ "java/lang/invoke/VarHandle" ∧ (parseMethodDescriptor md.1.desc).map (fun d => d.parameters.length) = some n) ∧ md.2.2.1 ≤ 21 ∧ plainName md.1.cls = true
/-- a call's entry -/
def LOK (own : String) (idx : Nat) (md : gM) : Prop := Cond.methodLink own idx md.1 ∈ tblG ∨ ∃ host, Cond.methodLinkNest own idx md.1 host ∈ nstG
def VOK (md : gM) : Prop := Cond.instanceMethod md.1 ∈ tblG ∧ Cond.selects md.1.cls md.1 md.1 ∈ tblG
def SOK (md : gM) : Prop := Cond.static md.1 ∈ tblG
/-- what stands at a number: an object of that class, or a text -/
def KOK (k : Nat) (C : String) : Prop := (∃ ci N T N', gk k = (0, ci, N) ∧ vwCl[ci]? = some (C, T, N')) ∨ (∃ i, i < 3 ∧ k = 1000 + i ∧ C = "java/lang/String")
theorem ws_good (md : gM) (h : Cond.code md.1 md.2.1 md.2.2.1 md.2.2.2 ∈ tblG) : GoodIn tblG (wsM md) := by
  intro w hw
  rcases List.mem_cons.mp hw with rfl | hw
  · exact ⟨h, tbl_good h⟩
  · exact ⟨hw, tbl_good hw⟩
theorem gw_recv {xs : gX} {d : Nat} {md : gM} {p : Program} {R : Room} {s : State} {m : MethodId} {args : Array Value} {c : Code} {G : gG} {A : Nat → Prop} {cells slots : Nat} (cx : Cx xs d md p R s m args c G A cells slots) {M : Mem} {H : Heap} {locs : List Loc} (hP : WP G A M H) (hS : va_S A s.heap H locs) {k : Nat} {C : String} (hk : KOK k C) : ∃ cell : Cell, H[G.2.1 k]? = some cell ∧ cell.vm.isStatics = false ∧ s.vm.findClass C = some cell.cls := by
  rcases hk with ⟨ci, N, T, N', hg, hc⟩ | ⟨i, hi, rfl, rfl⟩
  · have he := ws_at G M (gk_lt' hg (by decide))
    rw [ent_obj G M hg] at he
    exact va_recv cx.2.2.2.2.2.2.2.1 hP.1 hc he
  · exact vk_recv (adK := fun i => G.2.1 (1000 + i)) cx.2.2.2.2.2.2.2.2.1.2.2.2.2.2.1 hi hS
theorem GW.callV {xs : gX} {d : Nat} {md md' : gM} {pc pc' n index k : Nat} {lv : List (Nat × Value)} {st rest av : List Value} {M : Mem} {Q : Option Value → Mem → Prop} (hd : decode md.2.1 pc = .ok (.invokevirtual index, 3)) (hp : pc + 3 = pc') (hm : MOK md' n) (hl' : LOK md.1.cls index md') (hv : VOK md') (hkk : KOK k md'.1.cls) (hst : st = av.reverse ++ .ref k :: rest) (hn : av.length = n) (hcat : (rest.map fun v => v.category).sum ≤ 8)
    (k' : MT xs d md' (.ref k :: av) M (fun r M1 => GW xs (d + 1) md pc' lv (r.toList ++ rest) M1 Q)) : GW xs (d + 1) md pc lv st M Q := by
  subst hp hst
  intro p l e R s m args below meth c G A cells slots Z cx hr H locs ls hP hS hl
  obtain ⟨hm1, hm2, hm3, hm4, hm5⟩ := hm
  have hsum : ((rest.map (cvV G)).map fun v => v.category).sum ≤ 8 := by
    rw [List.map_map]
    rw [show ((fun v : Value => v.category) ∘ cvV G) = fun v => v.category from funext (cv_cat G)]
    exact hcat
  have hR : (rmD d).frames + 1 ≤ R.frames ∧ 8 + (md'.2.2.1 + 11) + (rmD d).locals ≤ R.locals := by
    have h1 := cx.2.2.2.2.2.2.1
    refine ⟨h1.1, ?_⟩
    show 8 + (md'.2.2.1 + 11) + 40 * d ≤ R.locals
    omega
  have hst : (av.reverse ++ .ref k :: rest).map (cvV G) = (av.map (cvV G)).reverse ++ .ref (G.2.1 k) :: rest.map (cvV G) := by simp [cvV]
  have hsv : ∀ w ∈ tblG, w.before args s = true := cx.2.2.2.2.1
  have hpre : PreV s H md'.1.cls (G.2.1 k) (PcM xs G (.ref k :: av) M) (av.map (cvV G)) := ⟨pcm_blind _ _ _ _, gw_recv cx hP hS hkk, fun U hU hW => ⟨rfl, wpu_at cx hP hS hU hW⟩⟩
  have hrun : va_Run p l e R s m args below meth c H locs cells slots 0 0 (F0 m pc ls ((av.reverse ++ .ref k :: rest).map (cvV G))) (rest.map (cvV G)) (QcM G (fun r M1 => GW xs (d + 1) md (pc + 3) lv (r.toList ++ rest) M1 Q) (Value.ref (G.2.1 k) :: av.map (cvV G)).toArray) (AW G) := by
    rcases hl' with h | ⟨host, h⟩
    · exact va_runV (Ts := tblG) (own := md.1.cls) (C := md'.1.cls) ⟨cx.1, cx.2.1, cx.2.2.1, cx.2.2.2.1, hsv⟩ (k' l G)
        ⟨callB_of (Ts := tblG) n hsv (ws_good md' hm1) rfl rfl rfl (hsv _ hm2) (hsv _ h) hm3 hR, hsv _ hv.1, hsv _ hv.2⟩ hpre rfl (by rw [List.length_map]; exact hn) hl.1 hst (lv_room hsum) hd ⟨cx.2.2.2.2.2.2.2.2.2.2.1, cx.2.2.2.2.2.2.2.2.2.2.2⟩
    · exact va_runVN (Ts := tblG) (own := md.1.cls) (C := md'.1.cls) ⟨cx.1, cx.2.1, cx.2.2.1, cx.2.2.2.1, hsv⟩ (k' l G)
        ⟨va_cnB (Ts := tblG) n hsv (ws_good md' hm1) rfl rfl rfl (cx.2.2.2.2.2.1 _ h) (hsv _ hm2) hm3 hR, hsv _ hv.1, hsv _ hv.2⟩ hpre rfl (by rw [List.length_map]; exact hn) hl.1 hst (lv_room hsum) hd ⟨cx.2.2.2.2.2.2.2.2.2.2.1, cx.2.2.2.2.2.2.2.2.2.2.2⟩
  refine gw_after cx hrun hS (fun r M1 H1 locs1 hq hP1 hS1 => ?_)
  have h := hq p l e R s m args below meth c G A cells slots Z cx hr H1 locs1 ls hP1 hS1 hl
  have e : (r.toList ++ rest).map (cvV G) = (r.map (cvV G)).toList ++ rest.map (cvV G) := by cases r <;> simp
  rw [e] at h
  exact h
theorem GW.callS {xs : gX} {d : Nat} {md md' : gM} {pc pc' n index : Nat} {lv : List (Nat × Value)} {st rest av : List Value} {M : Mem} {Q : Option Value → Mem → Prop} (hd : decode md.2.1 pc = .ok (.invokestatic index, 3)) (hp : pc + 3 = pc') (hm : MOK md' n) (hl' : LOK md.1.cls index md') (hv : SOK md') (hst : st = av.reverse ++ rest) (hn : av.length = n) (hcat : (rest.map fun v => v.category).sum ≤ 8)
    (k' : MT xs d md' av M (fun r M1 => GW xs (d + 1) md pc' lv (r.toList ++ rest) M1 Q)) : GW xs (d + 1) md pc lv st M Q := by
  subst hp hst
  intro p l e R s m args below meth c G A cells slots Z cx hr H locs ls hP hS hl
  obtain ⟨hm1, hm2, hm3, hm4, hm5⟩ := hm
  have hsum : ((rest.map (cvV G)).map fun v => v.category).sum ≤ 8 := by
    rw [List.map_map]
    rw [show ((fun v : Value => v.category) ∘ cvV G) = fun v => v.category from funext (cv_cat G)]
    exact hcat
  have hR : (rmD d).frames + 1 ≤ R.frames ∧ 8 + (md'.2.2.1 + 11) + (rmD d).locals ≤ R.locals := by
    have h1 := cx.2.2.2.2.2.2.1
    refine ⟨h1.1, ?_⟩
    show 8 + (md'.2.2.1 + 11) + 40 * d ≤ R.locals
    omega
  have hst : (av.reverse ++ rest).map (cvV G) = (av.map (cvV G)).reverse ++ rest.map (cvV G) := by simp
  have hsv : ∀ w ∈ tblG, w.before args s = true := cx.2.2.2.2.1
  have hpre : PreS s H (PcM xs G av M) (av.map (cvV G)) := ⟨pcm_blind _ _ _ _, fun U hU hW => ⟨rfl, wpu_at cx hP hS hU hW⟩⟩
  have hrun : va_Run p l e R s m args below meth c H locs cells slots 0 0 (F0 m pc ls ((av.reverse ++ rest).map (cvV G))) (rest.map (cvV G)) (QcM G (fun r M1 => GW xs (d + 1) md (pc + 3) lv (r.toList ++ rest) M1 Q) (av.map (cvV G)).toArray) (AW G) := by
    rcases hl' with h | ⟨host, h⟩
    · exact va_runS (Ts := tblG) (own := md.1.cls) ⟨cx.1, cx.2.1, cx.2.2.1, cx.2.2.2.1, hsv⟩ (k' l G)
        ⟨callB_of (Ts := tblG) n hsv (ws_good md' hm1) rfl rfl rfl (hsv _ hm2) (hsv _ h) hm3 hR, hsv _ hv⟩ hpre rfl (by rw [List.length_map]; exact hn) hl.1 hst (lv_room hsum) hd ⟨cx.2.2.2.2.2.2.2.2.2.2.1, cx.2.2.2.2.2.2.2.2.2.2.2⟩
    · exact va_runSN (Ts := tblG) (own := md.1.cls) ⟨cx.1, cx.2.1, cx.2.2.1, cx.2.2.2.1, hsv⟩ (k' l G)
        ⟨va_cnB (Ts := tblG) n hsv (ws_good md' hm1) rfl rfl rfl (cx.2.2.2.2.2.1 _ h) (hsv _ hm2) hm3 hR, hsv _ hv, trivial⟩ hpre rfl (by rw [List.length_map]; exact hn) hl.1 hst (lv_room hsum) hd ⟨cx.2.2.2.2.2.2.2.2.2.2.1, cx.2.2.2.2.2.2.2.2.2.2.2⟩
  refine gw_after cx hrun hS (fun r M1 H1 locs1 hq hP1 hS1 => ?_)
  have h := hq p l e R s m args below meth c G A cells slots Z cx hr H1 locs1 ls hP1 hS1 hl
  have e : (r.toList ++ rest).map (cvV G) = (r.map (cvV G)).toList ++ rest.map (cvV G) := by cases r <;> simp
  rw [e] at h
  exact h
theorem lva_map (G : gG) (vs : List Value) : ∀ i, lv_args i (vs.map (cvV G)) = lvl G (lv_args i vs) := by
  induction vs with
  | nil => intro i; rfl
  | cons v vs ih =>
    intro i
    show (i, cvV G v) :: lv_args (if (cvV G v).category = 2 then i + 2 else i + 1) (vs.map (cvV G)) = (i, cvV G v) :: lvl G (lv_args (if v.category = 2 then i + 2 else i + 1) vs)
    rw [cv_cat, ih]
theorem lgs_len (G : gG) (vs : List Value) : (lg_sl (vs.map (cvV G))).length = (lg_sl vs).length := by
  induction vs with
  | nil => rfl
  | cons v vs ih =>
    have h1 : (lg_sl (cvV G v :: vs.map (cvV G))).length = (if (cvV G v).category = 2 then 2 else 1) + (lg_sl (vs.map (cvV G))).length := by
      simp only [lg_sl, List.flatMap_cons, List.length_append]
      congr 1
      split <;> rfl
    have h2 : (lg_sl (v :: vs)).length = (if v.category = 2 then 2 else 1) + (lg_sl vs).length := by
      simp only [lg_sl, List.flatMap_cons, List.length_append]
      congr 1
      split <;> rfl
    rw [List.map_cons, h1, h2, cv_cat, ih]
/-- a contract begins: the method's first instruction, its arguments in their places -/
theorem MT.intro {xs : gX} {d : Nat} {md : gM} {av : List Value} {lv : List (Nat × Value)} {M : Mem} {Q : Option Value → Mem → Prop} (hpl : plainName md.1.cls = true) (hlen : (lg_sl av).length ≤ md.2.2.1) (hlv : lv_args 0 av = lv) (k : GW xs d md 0 lv [] M Q) : MT xs d md av M Q := by
  subst hlv
  intro l G
  refine Met.ofW (cc := md.2.1) (maxL := md.2.2.1) (ret := md.2.2.2) hpl rfl ?_
  intro p e s m args below meth c s₁ B hml hv
  obtain ⟨rfl, hP, hK, hC, hN⟩ := hv
  have hts := atoms_spec (ws := wsM md) B.pre
  have hown : s.vm.findClass md.1.cls = some m.cls := findClass_of_methodNamed B.named
  have hx := B.exec
  have hb := B.bytes
  have hr := B.returns
  have hlocks := B.notSynchronized
  have hl := lv_entry (av.map (cvV G)) (n := md.2.2.1) (by rw [lgs_len]; exact hlen)
  rw [lva_map] at hl
  rw [lg_entry_eq]
  generalize (lg_sl (av.map (cvV G)) ++ List.replicate (md.2.2.1 - (lg_sl (av.map (cvV G))).length) Slot.unset).toArray = ls at hl ⊢
  have cx : Cx xs d md p (headSpec (wsM md) (rmD d)).room s m (av.map (cvV G)).toArray c G (AW G) 0 0 := ⟨hx, hb, hml, hown, fun w hw => hts w (List.mem_cons_of_mem _ hw), hN, ⟨Nat.le_refl _, Nat.le_refl _⟩, hK, hC, fun _ q => q, Nat.zero_le _, Nat.zero_le _⟩
  refine k p l e _ s m _ below meth c G (AW G) 0 0 _ cx (fun v M1 H locs pc1 ls1 i hq hP1 hS1 hd hret => ?_) s.heap [] ls hP va_S.rf hl
  have fin : ∀ (t : State), t.heap = H → QcM G Q (av.map (cvV G)).toArray s (.returned (v.map (cvV G))) t := fun t ht => ⟨v, M1, rfl, hq, by rw [ht]; exact hP1, hS1.F ht⟩
  rw [hb] at hd
  rcases hret with ⟨ty, x, hret, rfl, hnar, rfl⟩ | ⟨hret, ⟨x, rfl⟩, rfl⟩ | ⟨hret, rfl, rfl⟩ | ⟨⟨n, hret⟩, ⟨x, rfl⟩, rfl⟩
  · exact W.zret (ty := ty) hx hb (hr.trans hret) hnar (fun t ht _ => fin t ht) hS1.2.2 hd
  · exact W.lret hx hb (hr.trans hret) (fun t ht _ => fin t ht) hS1.2.2 hd
  · exact W.vret hx hb (hr.trans hret) (fun t ht _ => fin t ht) hS1.2.2 hd
  · exact W.aret (rt := .object n) hx hb (hr.trans hret) (.inl ⟨n, rfl⟩) (.inr ⟨_, rfl⟩) (fun t ht _ => fin t ht) hS1.2.2 hd
/-- contracts by the kind of their answers -/
abbrev QI (Q : Int32 → Mem → Prop) : Option Value → Mem → Prop := fun r M1 => ∃ x, r = some (.int x) ∧ Q x M1
abbrev QL (Q : Int64 → Mem → Prop) : Option Value → Mem → Prop := fun r M1 => ∃ x, r = some (.long x) ∧ Q x M1
abbrev QV (Q : Mem → Prop) : Option Value → Mem → Prop := fun r M1 => r = none ∧ Q M1
abbrev QR (Q : Nat → Mem → Prop) : Option Value → Mem → Prop := fun r M1 => ∃ x, r = some (.ref x) ∧ Q x M1
def MI (xs : gX) (d : Nat) (md : gM) (av : List Value) (M : Mem) (Q : Int32 → Mem → Prop) : Prop := MT xs d md av M (QI Q)
def ML (xs : gX) (d : Nat) (md : gM) (av : List Value) (M : Mem) (Q : Int64 → Mem → Prop) : Prop := MT xs d md av M (QL Q)
def MV (xs : gX) (d : Nat) (md : gM) (av : List Value) (M : Mem) (Q : Mem → Prop) : Prop := MT xs d md av M (QV Q)
def MR (xs : gX) (d : Nat) (md : gM) (av : List Value) (M : Mem) (Q : Nat → Mem → Prop) : Prop := MT xs d md av M (QR Q)
theorem MI.mono {xs : gX} {d : Nat} {md : gM} {av : List Value} {M : Mem} {Q Q' : Int32 → Mem → Prop} (h : MI xs d md av M Q) (hQ : ∀ x M1, Q x M1 → Q' x M1) : MI xs d md av M Q' := MT.mono h (fun _ _ ⟨x, e, q⟩ => ⟨x, e, hQ _ _ q⟩)
theorem MI.intro {xs : gX} {d : Nat} {md : gM} {av : List Value} {lv : List (Nat × Value)} {M : Mem} {Q : Int32 → Mem → Prop} (hpl : plainName md.1.cls = true) (hlen : (lg_sl av).length ≤ md.2.2.1) (hlv : lv_args 0 av = lv) (k : GW xs d md 0 lv [] M (QI Q)) : MI xs d md av M Q := MT.intro hpl hlen hlv k
theorem bk_i {xs : gX} {d : Nat} {md md' : gM} {pc : Nat} {av rest : List Value} {lv : List (Nat × Value)} {M : Mem} {Q : Option Value → Mem → Prop} (h : MI xs d md' av M (fun x M1 => GW xs (d + 1) md pc lv (.int x :: rest) M1 Q)) : MT xs d md' av M (fun r M1 => GW xs (d + 1) md pc lv (r.toList ++ rest) M1 Q) := MT.mono h (fun _ _ ⟨x, e, q⟩ => by subst e; exact q)
theorem ML.mono {xs : gX} {d : Nat} {md : gM} {av : List Value} {M : Mem} {Q Q' : Int64 → Mem → Prop} (h : ML xs d md av M Q) (hQ : ∀ x M1, Q x M1 → Q' x M1) : ML xs d md av M Q' := MT.mono h (fun _ _ ⟨x, e, q⟩ => ⟨x, e, hQ _ _ q⟩)
theorem ML.intro {xs : gX} {d : Nat} {md : gM} {av : List Value} {lv : List (Nat × Value)} {M : Mem} {Q : Int64 → Mem → Prop} (hpl : plainName md.1.cls = true) (hlen : (lg_sl av).length ≤ md.2.2.1) (hlv : lv_args 0 av = lv) (k : GW xs d md 0 lv [] M (QL Q)) : ML xs d md av M Q := MT.intro hpl hlen hlv k
theorem bk_l {xs : gX} {d : Nat} {md md' : gM} {pc : Nat} {av rest : List Value} {lv : List (Nat × Value)} {M : Mem} {Q : Option Value → Mem → Prop} (h : ML xs d md' av M (fun x M1 => GW xs (d + 1) md pc lv (.long x :: rest) M1 Q)) : MT xs d md' av M (fun r M1 => GW xs (d + 1) md pc lv (r.toList ++ rest) M1 Q) := MT.mono h (fun _ _ ⟨x, e, q⟩ => by subst e; exact q)
theorem MV.mono {xs : gX} {d : Nat} {md : gM} {av : List Value} {M : Mem} {Q Q' : Mem → Prop} (h : MV xs d md av M Q) (hQ : ∀ M1, Q M1 → Q' M1) : MV xs d md av M Q' := MT.mono h (fun _ _ ⟨e, q⟩ => ⟨e, hQ _ q⟩)
theorem MV.intro {xs : gX} {d : Nat} {md : gM} {av : List Value} {lv : List (Nat × Value)} {M : Mem} {Q : Mem → Prop} (hpl : plainName md.1.cls = true) (hlen : (lg_sl av).length ≤ md.2.2.1) (hlv : lv_args 0 av = lv) (k : GW xs d md 0 lv [] M (QV Q)) : MV xs d md av M Q := MT.intro hpl hlen hlv k
theorem bk_v {xs : gX} {d : Nat} {md md' : gM} {pc : Nat} {av rest : List Value} {lv : List (Nat × Value)} {M : Mem} {Q : Option Value → Mem → Prop} (h : MV xs d md' av M (fun M1 => GW xs (d + 1) md pc lv rest M1 Q)) : MT xs d md' av M (fun r M1 => GW xs (d + 1) md pc lv (r.toList ++ rest) M1 Q) := MT.mono h (fun _ _ ⟨e, q⟩ => by subst e; exact q)
theorem MR.mono {xs : gX} {d : Nat} {md : gM} {av : List Value} {M : Mem} {Q Q' : Nat → Mem → Prop} (h : MR xs d md av M Q) (hQ : ∀ x M1, Q x M1 → Q' x M1) : MR xs d md av M Q' := MT.mono h (fun _ _ ⟨x, e, q⟩ => ⟨x, e, hQ _ _ q⟩)
theorem MR.intro {xs : gX} {d : Nat} {md : gM} {av : List Value} {lv : List (Nat × Value)} {M : Mem} {Q : Nat → Mem → Prop} (hpl : plainName md.1.cls = true) (hlen : (lg_sl av).length ≤ md.2.2.1) (hlv : lv_args 0 av = lv) (k : GW xs d md 0 lv [] M (QR Q)) : MR xs d md av M Q := MT.intro hpl hlen hlv k
theorem bk_r {xs : gX} {d : Nat} {md md' : gM} {pc : Nat} {av rest : List Value} {lv : List (Nat × Value)} {M : Mem} {Q : Option Value → Mem → Prop} (h : MR xs d md' av M (fun x M1 => GW xs (d + 1) md pc lv (.ref x :: rest) M1 Q)) : MT xs d md' av M (fun r M1 => GW xs (d + 1) md pc lv (r.toList ++ rest) M1 Q) := MT.mono h (fun _ _ ⟨x, e, q⟩ => by subst e; exact q)
theorem ite_i {c : Prop} [Decidable c] {a b : Prop} (h1 : c → a) (h2 : ¬ c → b) : if c then a else b := by
  by_cases h : c
  · rw [if_pos h]; exact h1 h
  · rw [if_neg h]; exact h2 h
theorem ite_t {c : Prop} [Decidable c] {a b : Prop} (h : if c then a else b) (hc : c) : a := by rwa [if_pos hc] at h
theorem ite_f {c : Prop} [Decidable c] {a b : Prop} (h : if c then a else b) (hc : ¬ c) : b := by rwa [if_neg hc] at h
theorem ite_p {c : Prop} [Decidable c] {a b : Prop} (hc : c) (h : a) : if c then a else b := by rwa [if_pos hc]
theorem ite_n {c : Prop} [Decidable c] {a b : Prop} (hc : ¬ c) (h : b) : if c then a else b := by rwa [if_neg hc]
theorem vin {i : Int32} {n : Nat} (h : ¬ (i < 0 ∨ n ≤ i.toNatClampNeg)) : vp_in i n := h
/-- fewer locals -/
theorem GW.sub {xs : gX} {d : Nat} {md : gM} {pc : Nat} {lv lv' : List (Nat × Value)} {st : List Value} {M : Mem} {Q : Option Value → Mem → Prop} (ks : List Nat) (hl' : lv_pick lv ks = lv') (k : GW xs d md pc lv' st M Q) : GW xs d md pc lv st M Q := by
  subst hl'
  intro p l e R s m args below meth c G A cells slots Z cx hr H locs ls hP hS hl
  refine k p l e R s m args below meth c G A cells slots Z cx hr H locs ls hP hS (lv_weak hl (fun q hq => ?_))
  obtain ⟨q0, h0, rfl⟩ := List.mem_map.mp hq
  obtain ⟨i, -, hi⟩ := List.mem_filterMap.mp h0
  exact List.mem_map.mpr ⟨q0, List.mem_of_getElem? hi, rfl⟩
theorem i4 {i : Int32} (h : vp_in i 4) : i = 0 ∨ i = 1 ∨ i = 2 ∨ i = 3 := by
  obtain ⟨j, hj, rfl⟩ := vp_in_of h (by decide)
  rcases (show j = 0 ∨ j = 1 ∨ j = 2 ∨ j = 3 by omega) with rfl | rfl | rfl | rfl
  · exact .inl rfl
  · exact .inr (.inl rfl)
  · exact .inr (.inr (.inl rfl))
  · exact .inr (.inr (.inr rfl))
/-- a copy within bounds -/
def CPK (sp dp n : Int32) (n0 n1 : Nat) : Prop := ¬ sp < 0 ∧ ¬ dp < 0 ∧ ¬ n < 0 ∧ sp.toNatClampNeg + n.toNatClampNeg ≤ n0 ∧ dp.toNatClampNeg + n.toNatClampNeg ≤ n1
def AOK (own : String) (idx : Nat) : Prop := Cond.methodLink own idx arraycopyName ∈ tblG ∧ Cond.native arraycopyName ∈ tblG ∧ Cond.static arraycopyName ∈ tblG ∧ Cond.initialized "java/lang/System" ∈ tblG
theorem GW.copyi {xs : gX} {d : Nat} {md : gM} {pc pc' index : Nat} {lv : List (Nat × Value)} {rest : List Value} {M : Mem} {Q : Option Value → Mem → Prop} {k0 k1 n0 n1 z0 z1 sp' dp' n' : Nat} {sp dp n : Int32} (hd : decode md.2.1 pc = .ok (.invokestatic index, 3)) (hp : pc + 3 = pc') (hA : AOK md.1.cls index) (hg0 : gk k0 = (1, n0, z0)) (hg1 : gk k1 = (1, n1, z1)) (hc : CPK sp dp n n0 n1) (h1 : sp.toNatClampNeg = sp') (h2 : dp.toNatClampNeg = dp') (h3 : n.toNatClampNeg = n') (hcat : (rest.map fun v => v.category).sum ≤ 8)
    (k' : GW xs (d + 1) md pc' lv rest (mwA M k1 (va_cpy (M.1 k0) (M.1 k1) sp' dp' n')) Q) : GW xs (d + 1) md pc lv (.int n :: .int dp :: .ref k1 :: .int sp :: .ref k0 :: rest) M Q := by
  subst hp h1 h2 h3
  intro p l e R s m args below meth c G A cells slots Z cx hr H locs ls hP hS hl
  obtain ⟨a1, a2, a3, a4⟩ := hA
  obtain ⟨c1, c2, c3, c4, c5⟩ := hc
  have hsv : ∀ w ∈ tblG, w.before args s = true := cx.2.2.2.2.1
  have hlt := gk_lt' hg1 (by decide)
  have he0 := ws_at G M (gk_lt' hg0 (by decide))
  have he1 := ws_at G M hlt
  rw [ent_int G M hg0] at he0
  rw [ent_int G M hg1] at he1
  have hsum : ((rest.map (cvV G)).map fun v => v.category).sum ≤ 8 := by
    rw [List.map_map]
    rw [show ((fun v : Value => v.category) ∘ cvV G) = fun v => v.category from funext (cv_cat G)]
    exact hcat
  have hloc : ((rest.map (cvV G)).map fun v => v.category).sum + (nativeFrameWords "java/lang/System" "arraycopy" 5 + 11) ≤ R.locals := by
    have h1 := cx.2.2.2.2.2.2.1.2
    have h2 : nativeFrameWords "java/lang/System" "arraycopy" 5 ≤ 16 := by decide
    omega
  refine va_copyi cx.1 cx.2.1 (cx.2.2.1.trans hl.1.symm) cx.2.2.2.1 (hsv _ a1) (hsv _ a2) (hsv _ a3) (hsv _ a4) cx.2.2.2.2.2.2.2.1 hP.1 hP.2 hS k0 k1 0 0 he0 he1 rfl rfl rfl c1 c2 c3 c4 c5 (fun _ _ => rfl) (Nat.le_trans (Nat.le_add_left 1 d) cx.2.2.2.2.2.2.1.1) hloc hd (fun H1 locs1 h1 h2 h3 => ?_)
  have hset := ws_set (G := G) (M := M) (M1 := mwA M k1 (va_cpy (M.1 k0) (M.1 k1) sp.toNatClampNeg dp.toNatClampNeg n.toNatClampNeg)) (e := .inl (G.2.2 0, n1, .inl (va_cpy (M.1 k0) (M.1 k1) sp.toNatClampNeg dp.toNatClampNeg n.toNatClampNeg))) hlt (by rw [ent_int G _ hg1, mwA_at]) (fun b hb => ent_mwA_ne G M _ hb)
  rw [hset] at h1 h2
  exact k' p l e R s m args below meth c G A cells slots Z cx hr H1 locs1 ls ⟨h1, h2⟩ h3 hl
theorem GW.copyl {xs : gX} {d : Nat} {md : gM} {pc pc' index : Nat} {lv : List (Nat × Value)} {rest : List Value} {M : Mem} {Q : Option Value → Mem → Prop} {k0 k1 n0 n1 z0 z1 sp' dp' n' : Nat} {sp dp n : Int32} (hd : decode md.2.1 pc = .ok (.invokestatic index, 3)) (hp : pc + 3 = pc') (hA : AOK md.1.cls index) (hg0 : gk k0 = (2, n0, z0)) (hg1 : gk k1 = (2, n1, z1)) (hc : CPK sp dp n n0 n1) (h1 : sp.toNatClampNeg = sp') (h2 : dp.toNatClampNeg = dp') (h3 : n.toNatClampNeg = n') (hcat : (rest.map fun v => v.category).sum ≤ 8)
    (k' : GW xs (d + 1) md pc' lv rest (mlA M k1 (va_cpy (M.2 k0) (M.2 k1) sp' dp' n')) Q) : GW xs (d + 1) md pc lv (.int n :: .int dp :: .ref k1 :: .int sp :: .ref k0 :: rest) M Q := by
  subst hp h1 h2 h3
  intro p l e R s m args below meth c G A cells slots Z cx hr H locs ls hP hS hl
  obtain ⟨a1, a2, a3, a4⟩ := hA
  obtain ⟨c1, c2, c3, c4, c5⟩ := hc
  have hsv : ∀ w ∈ tblG, w.before args s = true := cx.2.2.2.2.1
  have hlt := gk_lt' hg1 (by decide)
  have he0 := ws_at G M (gk_lt' hg0 (by decide))
  have he1 := ws_at G M hlt
  rw [ent_long G M hg0] at he0
  rw [ent_long G M hg1] at he1
  have hsum : ((rest.map (cvV G)).map fun v => v.category).sum ≤ 8 := by
    rw [List.map_map]
    rw [show ((fun v : Value => v.category) ∘ cvV G) = fun v => v.category from funext (cv_cat G)]
    exact hcat
  have hloc : ((rest.map (cvV G)).map fun v => v.category).sum + (nativeFrameWords "java/lang/System" "arraycopy" 5 + 11) ≤ R.locals := by
    have h1 := cx.2.2.2.2.2.2.1.2
    have h2 : nativeFrameWords "java/lang/System" "arraycopy" 5 ≤ 16 := by decide
    omega
  refine va_copyl cx.1 cx.2.1 (cx.2.2.1.trans hl.1.symm) cx.2.2.2.1 (hsv _ a1) (hsv _ a2) (hsv _ a3) (hsv _ a4) cx.2.2.2.2.2.2.2.1 hP.1 hP.2 hS k0 k1 1 1 he0 he1 rfl rfl rfl c1 c2 c3 c4 c5 (fun _ _ => rfl) (Nat.le_trans (Nat.le_add_left 1 d) cx.2.2.2.2.2.2.1.1) hloc hd (fun H1 locs1 h1 h2 h3 => ?_)
  have hset := ws_set (G := G) (M := M) (M1 := mlA M k1 (va_cpy (M.2 k0) (M.2 k1) sp.toNatClampNeg dp.toNatClampNeg n.toNatClampNeg)) (e := .inl (G.2.2 1, n1, .inr (.inl (va_cpy (M.2 k0) (M.2 k1) sp.toNatClampNeg dp.toNatClampNeg n.toNatClampNeg)))) hlt (by rw [ent_long G _ hg1, mlA_at]) (fun b hb => ent_mlA_ne G M _ hb)
  rw [hset] at h1 h2
  exact k' p l e R s m args below meth c G A cells slots Z cx hr H1 locs1 ls ⟨h1, h2⟩ h3 hl
/-- Math.max, Math.min -/
def gmax (x y : Int32) : Int32 := if x < y then y else x
def gmin (x y : Int32) : Int32 := if y < x then y else x
def XOK (own : String) (idx : Nat) : Prop := Cond.methodLink own idx Lib.Math.max.name ∈ tblG ∧ Cond.static Lib.Math.max.name ∈ tblG ∧ Cond.initialized "java/lang/Math" ∈ tblG ∧ Cond.code Lib.Math.max.name Lib.Math.max.code 2 (some .int) ∈ tblG
def NOK (own : String) (idx : Nat) : Prop := Cond.methodLink own idx Lib.Math.min.name ∈ tblG ∧ Cond.static Lib.Math.min.name ∈ tblG ∧ Cond.initialized "java/lang/Math" ∈ tblG ∧ Cond.code Lib.Math.min.name Lib.Math.min.code 2 (some .int) ∈ tblG
theorem GW.mmax {xs : gX} {d : Nat} {md : gM} {pc pc' index : Nat} {lv : List (Nat × Value)} {rest : List Value} {M : Mem} {Q : Option Value → Mem → Prop} {x y : Int32} (hd : decode md.2.1 pc = .ok (.invokestatic index, 3)) (hp : pc + 3 = pc') (hA : XOK md.1.cls index) (hcat : (rest.map fun v => v.category).sum ≤ 8)
    (k' : GW xs (d + 1) md pc' lv (.int (gmax x y) :: rest) M Q) : GW xs (d + 1) md pc lv (.int y :: .int x :: rest) M Q := by
  subst hp
  intro p l e R s m args below meth c G A cells slots Z cx hr H locs ls hP hS hl
  obtain ⟨a1, a2, a3, a4⟩ := hA
  have hsv : ∀ w ∈ tblG, w.before args s = true := cx.2.2.2.2.1
  have hsum : ((rest.map (cvV G)).map fun v => v.category).sum ≤ 8 := by
    rw [List.map_map]
    rw [show ((fun v : Value => v.category) ∘ cvV G) = fun v => v.category from funext (cv_cat G)]
    exact hcat
  have hloc : ((rest.map (cvV G)).map fun v => v.category).sum + 13 ≤ R.locals := by
    have h1 := cx.2.2.2.2.2.2.1.2
    omega
  exact va_mmax cx.1 cx.2.1 (cx.2.2.1.trans hl.1.symm) cx.2.2.2.1 (hsv _ a1) (hsv _ a2) (hsv _ a3) (hsv _ a4) (Nat.le_trans (Nat.le_add_left 1 d) cx.2.2.2.2.2.2.1.1) hloc cx.2.2.2.2.2.2.2.2.2.2.1 cx.2.2.2.2.2.2.2.2.2.2.2 hd (k' p l e R s m args below meth c G A cells slots Z cx hr H locs ls hP hS hl)
theorem GW.mmin {xs : gX} {d : Nat} {md : gM} {pc pc' index : Nat} {lv : List (Nat × Value)} {rest : List Value} {M : Mem} {Q : Option Value → Mem → Prop} {x y : Int32} (hd : decode md.2.1 pc = .ok (.invokestatic index, 3)) (hp : pc + 3 = pc') (hA : NOK md.1.cls index) (hcat : (rest.map fun v => v.category).sum ≤ 8)
    (k' : GW xs (d + 1) md pc' lv (.int (gmin x y) :: rest) M Q) : GW xs (d + 1) md pc lv (.int y :: .int x :: rest) M Q := by
  subst hp
  intro p l e R s m args below meth c G A cells slots Z cx hr H locs ls hP hS hl
  obtain ⟨a1, a2, a3, a4⟩ := hA
  have hsv : ∀ w ∈ tblG, w.before args s = true := cx.2.2.2.2.1
  have hsum : ((rest.map (cvV G)).map fun v => v.category).sum ≤ 8 := by
    rw [List.map_map]
    rw [show ((fun v : Value => v.category) ∘ cvV G) = fun v => v.category from funext (cv_cat G)]
    exact hcat
  have hloc : ((rest.map (cvV G)).map fun v => v.category).sum + 13 ≤ R.locals := by
    have h1 := cx.2.2.2.2.2.2.1.2
    omega
  exact va_mmin cx.1 cx.2.1 (cx.2.2.1.trans hl.1.symm) cx.2.2.2.1 (hsv _ a1) (hsv _ a2) (hsv _ a3) (hsv _ a4) (Nat.le_trans (Nat.le_add_left 1 d) cx.2.2.2.2.2.2.1.1) hloc cx.2.2.2.2.2.2.2.2.2.2.1 cx.2.2.2.2.2.2.2.2.2.2.2 hd (k' p l e R s m args below meth c G A cells slots Z cx hr H locs ls hP hS hl)
/-- texts -/
def txL (i : Nat) : List Int32 := [[], [98, 116, 109], [97, 107, 109]].getD i []
def txN (i : Nat) : Nat := [0, 3, 3].getD i 0
theorem GW.ldcs {xs : gX} {d : Nat} {md : gM} {pc pc' index : Nat} {lv : List (Nat × Value)} {rest : List Value} {M : Mem} {Q : Option Value → Mem → Prop} (k : Nat) (hd : decode md.2.1 pc = .ok (.ldc index, 2)) (hp : pc + 2 = pc') (hc : (k = 1000 ∧ md.1.cls = "SoldYear$Scribe" ∧ index = 18) ∨ (k = 1001 ∧ md.1.cls = "SoldYear" ∧ index = 149) ∨ (k = 1002 ∧ md.1.cls = "SoldYear" ∧ index = 151))
    (k' : GW xs d md pc' lv (.ref k :: rest) M Q) : GW xs d md pc lv rest M Q := by
  subst hp
  intro p l e R s m args below meth c G A cells slots Z cx hr H locs ls hP hS hl
  have kk := k' p l e R s m args below meth c G A cells slots Z cx hr H locs ls hP hS hl
  obtain ⟨-, -, -, -, -, -, ⟨z0, z1, z2⟩, -⟩ := cx.2.2.2.2.2.2.2.2.1
  rcases hc with ⟨rfl, h, rfl⟩ | ⟨rfl, h, rfl⟩ | ⟨rfl, h, rfl⟩
  · exact va_ldcS cx.1 cx.2.1 (by rw [← h]; exact cx.2.2.2.1) z0 hd kk
  · exact va_ldcS cx.1 cx.2.1 (by rw [← h]; exact cx.2.2.2.1) z1 hd kk
  · exact va_ldcS cx.1 cx.2.1 (by rw [← h]; exact cx.2.2.2.1) z2 hd kk
theorem GW.xcoder {xs : gX} {d : Nat} {md : gM} {pc pc' index i : Nat} {lv : List (Nat × Value)} {rest : List Value} {M : Mem} {Q : Option Value → Mem → Prop} (hi : i < 3) (hd : decode md.2.1 pc = .ok (.getfield index, 3)) (hp : pc + 3 = pc') (hF : Cond.fieldLink md.1.cls index "java/lang/String" "coder" "B" ∈ tblG)
    (k' : GW xs d md pc' lv (.int 0 :: rest) M Q) : GW xs d md pc lv (.ref (1000 + i) :: rest) M Q := by
  subst hp
  intro p l e R s m args below meth c G A cells slots Z cx hr H locs ls hP hS hl
  obtain ⟨-, -, -, -, -, zS, -⟩ := cx.2.2.2.2.2.2.2.2.1
  exact vk_getf cx.1 cx.2.1 (zS.1 i hi).2.1 hS cx.2.2.2.1 (cx.2.2.2.2.1 _ hF) (fun _ q => q) hd (k' p l e R s m args below meth c G A cells slots Z cx hr H locs ls hP hS hl)
theorem GW.xvalue {xs : gX} {d : Nat} {md : gM} {pc pc' index i : Nat} {lv : List (Nat × Value)} {rest : List Value} {M : Mem} {Q : Option Value → Mem → Prop} (hi : i < 3) (hd : decode md.2.1 pc = .ok (.getfield index, 3)) (hp : pc + 3 = pc') (hF : Cond.fieldLink md.1.cls index "java/lang/String" "value" "[B" ∈ tblG)
    (k' : GW xs d md pc' lv (.ref (1100 + i) :: rest) M Q) : GW xs d md pc lv (.ref (1000 + i) :: rest) M Q := by
  subst hp
  intro p l e R s m args below meth c G A cells slots Z cx hr H locs ls hP hS hl
  obtain ⟨-, -, -, -, -, zS, -⟩ := cx.2.2.2.2.2.2.2.2.1
  exact vk_getf cx.1 cx.2.1 (zS.1 i hi).2.2.1 hS cx.2.2.2.1 (cx.2.2.2.2.1 _ hF) (fun _ q => q) hd (k' p l e R s m args below meth c G A cells slots Z cx hr H locs ls hP hS hl)
theorem GW.xbyte {xs : gX} {d : Nat} {md : gM} {pc pc' i : Nat} {j : Int32} {lv : List (Nat × Value)} {rest : List Value} {M : Mem} {Q : Option Value → Mem → Prop} (hi : i < 3) (hd : decode md.2.1 pc = .ok (.baload, 1)) (hp : pc + 1 = pc') (hin : vp_in j (txN i))
    (k' : GW xs d md pc' lv (.int ((txL i).getD j.toNatClampNeg 0) :: rest) M Q) : GW xs d md pc lv (.int j :: .ref (1100 + i) :: rest) M Q := by
  subst hp
  intro p l e R s m args below meth c G A cells slots Z cx hr H locs ls hP hS hl
  obtain ⟨-, -, -, -, -, zS, -⟩ := cx.2.2.2.2.2.2.2.2.1
  exact va_tb cx.1 cx.2.1 (zS.1 i hi).2.2.2 hS hin rfl hd (k' p l e R s m args below meth c G A cells slots Z cx hr H locs ls hP hS hl)
theorem GW.xlen {xs : gX} {d : Nat} {md : gM} {pc pc' i : Nat} {v : Int32} {lv : List (Nat × Value)} {rest : List Value} {M : Mem} {Q : Option Value → Mem → Prop} (hi : i < 3) (hd : decode md.2.1 pc = .ok (.arraylength, 1)) (hp : pc + 1 = pc') (hv : Int32.ofNat (txN i) = v)
    (k' : GW xs d md pc' lv (.int v :: rest) M Q) : GW xs d md pc lv (.ref (1100 + i) :: rest) M Q := by
  subst hp
  intro p l e R s m args below meth c G A cells slots Z cx hr H locs ls hP hS hl
  obtain ⟨-, -, -, -, -, zS, -⟩ := cx.2.2.2.2.2.2.2.2.1
  exact va_tlen cx.1 cx.2.1 (zS.1 i hi).2.2.2 hS hv hd (k' p l e R s m args below meth c G A cells slots Z cx hr H locs ls hP hS hl)
theorem GW.xcompact {xs : gX} {d : Nat} {md : gM} {pc pc' index : Nat} {lv : List (Nat × Value)} {rest : List Value} {M : Mem} {Q : Option Value → Mem → Prop} (hd : decode md.2.1 pc = .ok (.getstatic index, 3)) (hp : pc + 3 = pc') (hF : Cond.fieldLink md.1.cls index "java/lang/String" "COMPACT_STRINGS" "Z" ∈ tblG)
    (k' : GW xs d md pc' lv (.int 1 :: rest) M Q) : GW xs d md pc lv rest M Q := by
  subst hp
  intro p l e R s m args below meth c G A cells slots Z cx hr H locs ls hP hS hl
  obtain ⟨-, -, -, -, hZ, -⟩ := cx.2.2.2.2.2.2.2.2.1
  exact va_gets cx.1 cx.2.1 hZ hS cx.2.2.2.1 (cx.2.2.2.2.1 _ hF) (fun _ q => q) hd (k' p l e R s m args below meth c G A cells slots Z cx hr H locs ls hP hS hl)
