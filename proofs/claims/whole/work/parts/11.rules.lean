theorem GW.iadd {xs : gX} {d : Nat} {md : gM} {pc pc' : Nat} {lv : List (Nat × Value)} {rest : List Value} {M : Mem} {Q : Option Value → Mem → Prop} {x y : Int32} (hd : decode md.2.1 pc = .ok (.iadd, 1)) (hp : pc + 1 = pc') (k : GW xs d md pc' lv (.int (x + y) :: rest) M Q) : GW xs d md pc lv (.int y :: .int x :: rest) M Q := by
  subst hp
  intro p l e R s m args below meth c G A cells slots Z cx hr H locs ls hP hS hl
  exact lv_iadd cx.1 cx.2.1 hd (k p l e R s m args below meth c G A cells slots Z cx hr H locs ls hP hS hl)
theorem GW.isub {xs : gX} {d : Nat} {md : gM} {pc pc' : Nat} {lv : List (Nat × Value)} {rest : List Value} {M : Mem} {Q : Option Value → Mem → Prop} {x y : Int32} (hd : decode md.2.1 pc = .ok (.isub, 1)) (hp : pc + 1 = pc') (k : GW xs d md pc' lv (.int (x - y) :: rest) M Q) : GW xs d md pc lv (.int y :: .int x :: rest) M Q := by
  subst hp
  intro p l e R s m args below meth c G A cells slots Z cx hr H locs ls hP hS hl
  exact lv_isub cx.1 cx.2.1 hd (k p l e R s m args below meth c G A cells slots Z cx hr H locs ls hP hS hl)
theorem GW.imul {xs : gX} {d : Nat} {md : gM} {pc pc' : Nat} {lv : List (Nat × Value)} {rest : List Value} {M : Mem} {Q : Option Value → Mem → Prop} {x y : Int32} (hd : decode md.2.1 pc = .ok (.imul, 1)) (hp : pc + 1 = pc') (k : GW xs d md pc' lv (.int (x * y) :: rest) M Q) : GW xs d md pc lv (.int y :: .int x :: rest) M Q := by
  subst hp
  intro p l e R s m args below meth c G A cells slots Z cx hr H locs ls hP hS hl
  exact lv_imul cx.1 cx.2.1 hd (k p l e R s m args below meth c G A cells slots Z cx hr H locs ls hP hS hl)
theorem GW.iand {xs : gX} {d : Nat} {md : gM} {pc pc' : Nat} {lv : List (Nat × Value)} {rest : List Value} {M : Mem} {Q : Option Value → Mem → Prop} {x y : Int32} (hd : decode md.2.1 pc = .ok (.iand, 1)) (hp : pc + 1 = pc') (k : GW xs d md pc' lv (.int (x &&& y) :: rest) M Q) : GW xs d md pc lv (.int y :: .int x :: rest) M Q := by
  subst hp
  intro p l e R s m args below meth c G A cells slots Z cx hr H locs ls hP hS hl
  exact lv_iand cx.1 cx.2.1 hd (k p l e R s m args below meth c G A cells slots Z cx hr H locs ls hP hS hl)
theorem GW.ior {xs : gX} {d : Nat} {md : gM} {pc pc' : Nat} {lv : List (Nat × Value)} {rest : List Value} {M : Mem} {Q : Option Value → Mem → Prop} {x y : Int32} (hd : decode md.2.1 pc = .ok (.ior, 1)) (hp : pc + 1 = pc') (k : GW xs d md pc' lv (.int (x ||| y) :: rest) M Q) : GW xs d md pc lv (.int y :: .int x :: rest) M Q := by
  subst hp
  intro p l e R s m args below meth c G A cells slots Z cx hr H locs ls hP hS hl
  exact lv_ior cx.1 cx.2.1 hd (k p l e R s m args below meth c G A cells slots Z cx hr H locs ls hP hS hl)
theorem GW.ixor {xs : gX} {d : Nat} {md : gM} {pc pc' : Nat} {lv : List (Nat × Value)} {rest : List Value} {M : Mem} {Q : Option Value → Mem → Prop} {x y : Int32} (hd : decode md.2.1 pc = .ok (.ixor, 1)) (hp : pc + 1 = pc') (k : GW xs d md pc' lv (.int (x ^^^ y) :: rest) M Q) : GW xs d md pc lv (.int y :: .int x :: rest) M Q := by
  subst hp
  intro p l e R s m args below meth c G A cells slots Z cx hr H locs ls hP hS hl
  exact lv_ixor cx.1 cx.2.1 hd (k p l e R s m args below meth c G A cells slots Z cx hr H locs ls hP hS hl)
theorem GW.ishl {xs : gX} {d : Nat} {md : gM} {pc pc' : Nat} {lv : List (Nat × Value)} {rest : List Value} {M : Mem} {Q : Option Value → Mem → Prop} {x y : Int32} (hd : decode md.2.1 pc = .ok (.ishl, 1)) (hp : pc + 1 = pc') (k : GW xs d md pc' lv (.int (x <<< (y &&& 31)) :: rest) M Q) : GW xs d md pc lv (.int y :: .int x :: rest) M Q := by
  subst hp
  intro p l e R s m args below meth c G A cells slots Z cx hr H locs ls hP hS hl
  exact lv_ishl cx.1 cx.2.1 hd (k p l e R s m args below meth c G A cells slots Z cx hr H locs ls hP hS hl)
theorem GW.ishr {xs : gX} {d : Nat} {md : gM} {pc pc' : Nat} {lv : List (Nat × Value)} {rest : List Value} {M : Mem} {Q : Option Value → Mem → Prop} {x y : Int32} (hd : decode md.2.1 pc = .ok (.ishr, 1)) (hp : pc + 1 = pc') (k : GW xs d md pc' lv (.int (x >>> (y &&& 31)) :: rest) M Q) : GW xs d md pc lv (.int y :: .int x :: rest) M Q := by
  subst hp
  intro p l e R s m args below meth c G A cells slots Z cx hr H locs ls hP hS hl
  exact lv_ishr cx.1 cx.2.1 hd (k p l e R s m args below meth c G A cells slots Z cx hr H locs ls hP hS hl)
theorem GW.idiv {xs : gX} {d : Nat} {md : gM} {pc pc' : Nat} {lv : List (Nat × Value)} {rest : List Value} {M : Mem} {Q : Option Value → Mem → Prop} {x y : Int32} (hd : decode md.2.1 pc = .ok (.idiv, 1)) (hp : pc + 1 = pc') (hne : ¬ y = 0) (k : GW xs d md pc' lv (.int (x / y) :: rest) M Q) : GW xs d md pc lv (.int y :: .int x :: rest) M Q := by
  subst hp
  intro p l e R s m args below meth c G A cells slots Z cx hr H locs ls hP hS hl
  exact lv_idiv cx.1 cx.2.1 hd hne (k p l e R s m args below meth c G A cells slots Z cx hr H locs ls hP hS hl)
theorem GW.irem {xs : gX} {d : Nat} {md : gM} {pc pc' : Nat} {lv : List (Nat × Value)} {rest : List Value} {M : Mem} {Q : Option Value → Mem → Prop} {x y : Int32} (hd : decode md.2.1 pc = .ok (.irem, 1)) (hp : pc + 1 = pc') (hne : ¬ y = 0) (k : GW xs d md pc' lv (.int (x - x / y * y) :: rest) M Q) : GW xs d md pc lv (.int y :: .int x :: rest) M Q := by
  subst hp
  intro p l e R s m args below meth c G A cells slots Z cx hr H locs ls hP hS hl
  exact lv_irem cx.1 cx.2.1 hd hne (k p l e R s m args below meth c G A cells slots Z cx hr H locs ls hP hS hl)
theorem GW.ineg {xs : gX} {d : Nat} {md : gM} {pc pc' : Nat} {lv : List (Nat × Value)} {rest : List Value} {M : Mem} {Q : Option Value → Mem → Prop} {x : Int32} (hd : decode md.2.1 pc = .ok (.ineg, 1)) (hp : pc + 1 = pc') (k : GW xs d md pc' lv (.int (-x) :: rest) M Q) : GW xs d md pc lv (.int x :: rest) M Q := by
  subst hp
  intro p l e R s m args below meth c G A cells slots Z cx hr H locs ls hP hS hl
  exact lv_ineg cx.1 cx.2.1 hd (k p l e R s m args below meth c G A cells slots Z cx hr H locs ls hP hS hl)
theorem GW.ladd {xs : gX} {d : Nat} {md : gM} {pc pc' : Nat} {lv : List (Nat × Value)} {rest : List Value} {M : Mem} {Q : Option Value → Mem → Prop} {x y : Int64} (hd : decode md.2.1 pc = .ok (.ladd, 1)) (hp : pc + 1 = pc') (k : GW xs d md pc' lv (.long (x + y) :: rest) M Q) : GW xs d md pc lv (.long y :: .long x :: rest) M Q := by
  subst hp
  intro p l e R s m args below meth c G A cells slots Z cx hr H locs ls hP hS hl
  exact lv_ladd cx.1 cx.2.1 hd (k p l e R s m args below meth c G A cells slots Z cx hr H locs ls hP hS hl)
theorem GW.land {xs : gX} {d : Nat} {md : gM} {pc pc' : Nat} {lv : List (Nat × Value)} {rest : List Value} {M : Mem} {Q : Option Value → Mem → Prop} {x y : Int64} (hd : decode md.2.1 pc = .ok (.land, 1)) (hp : pc + 1 = pc') (k : GW xs d md pc' lv (.long (x &&& y) :: rest) M Q) : GW xs d md pc lv (.long y :: .long x :: rest) M Q := by
  subst hp
  intro p l e R s m args below meth c G A cells slots Z cx hr H locs ls hP hS hl
  exact lv_land cx.1 cx.2.1 hd (k p l e R s m args below meth c G A cells slots Z cx hr H locs ls hP hS hl)
theorem GW.lor {xs : gX} {d : Nat} {md : gM} {pc pc' : Nat} {lv : List (Nat × Value)} {rest : List Value} {M : Mem} {Q : Option Value → Mem → Prop} {x y : Int64} (hd : decode md.2.1 pc = .ok (.lor, 1)) (hp : pc + 1 = pc') (k : GW xs d md pc' lv (.long (x ||| y) :: rest) M Q) : GW xs d md pc lv (.long y :: .long x :: rest) M Q := by
  subst hp
  intro p l e R s m args below meth c G A cells slots Z cx hr H locs ls hP hS hl
  exact lv_lor cx.1 cx.2.1 hd (k p l e R s m args below meth c G A cells slots Z cx hr H locs ls hP hS hl)
theorem GW.lcmp {xs : gX} {d : Nat} {md : gM} {pc pc' : Nat} {lv : List (Nat × Value)} {rest : List Value} {M : Mem} {Q : Option Value → Mem → Prop} {x y : Int64} (hd : decode md.2.1 pc = .ok (.lcmp, 1)) (hp : pc + 1 = pc') (k : GW xs d md pc' lv (.int (lg_cmp x y) :: rest) M Q) : GW xs d md pc lv (.long y :: .long x :: rest) M Q := by
  subst hp
  intro p l e R s m args below meth c G A cells slots Z cx hr H locs ls hP hS hl
  exact W.lcmp cx.1 cx.2.1 hd (k p l e R s m args below meth c G A cells slots Z cx hr H locs ls hP hS hl)
theorem GW.i2l {xs : gX} {d : Nat} {md : gM} {pc pc' : Nat} {lv : List (Nat × Value)} {rest : List Value} {M : Mem} {Q : Option Value → Mem → Prop} {x : Int32} (hd : decode md.2.1 pc = .ok (.i2l, 1)) (hp : pc + 1 = pc') (k : GW xs d md pc' lv (.long x.toInt64 :: rest) M Q) : GW xs d md pc lv (.int x :: rest) M Q := by
  subst hp
  intro p l e R s m args below meth c G A cells slots Z cx hr H locs ls hP hS hl
  exact lv_i2l cx.1 cx.2.1 hd rfl (k p l e R s m args below meth c G A cells slots Z cx hr H locs ls hP hS hl)
theorem GW.l2i {xs : gX} {d : Nat} {md : gM} {pc pc' : Nat} {lv : List (Nat × Value)} {rest : List Value} {M : Mem} {Q : Option Value → Mem → Prop} {x : Int64} (hd : decode md.2.1 pc = .ok (.l2i, 1)) (hp : pc + 1 = pc') (k : GW xs d md pc' lv (.int x.toInt32 :: rest) M Q) : GW xs d md pc lv (.long x :: rest) M Q := by
  subst hp
  intro p l e R s m args below meth c G A cells slots Z cx hr H locs ls hP hS hl
  exact lv_l2i cx.1 cx.2.1 hd rfl (k p l e R s m args below meth c G A cells slots Z cx hr H locs ls hP hS hl)
theorem GW.i2b {xs : gX} {d : Nat} {md : gM} {pc pc' : Nat} {lv : List (Nat × Value)} {rest : List Value} {M : Mem} {Q : Option Value → Mem → Prop} {x : Int32} (hd : decode md.2.1 pc = .ok (.i2b, 1)) (hp : pc + 1 = pc') (k : GW xs d md pc' lv (.int x.toInt8.toInt32 :: rest) M Q) : GW xs d md pc lv (.int x :: rest) M Q := by
  subst hp
  intro p l e R s m args below meth c G A cells slots Z cx hr H locs ls hP hS hl
  exact lv_i2b cx.1 cx.2.1 hd rfl (k p l e R s m args below meth c G A cells slots Z cx hr H locs ls hP hS hl)
theorem GW.i2s {xs : gX} {d : Nat} {md : gM} {pc pc' : Nat} {lv : List (Nat × Value)} {rest : List Value} {M : Mem} {Q : Option Value → Mem → Prop} {x : Int32} (hd : decode md.2.1 pc = .ok (.i2s, 1)) (hp : pc + 1 = pc') (k : GW xs d md pc' lv (.int x.toInt16.toInt32 :: rest) M Q) : GW xs d md pc lv (.int x :: rest) M Q := by
  subst hp
  intro p l e R s m args below meth c G A cells slots Z cx hr H locs ls hP hS hl
  exact lv_i2s cx.1 cx.2.1 hd rfl (k p l e R s m args below meth c G A cells slots Z cx hr H locs ls hP hS hl)
theorem GW.i2c {xs : gX} {d : Nat} {md : gM} {pc pc' : Nat} {lv : List (Nat × Value)} {rest : List Value} {M : Mem} {Q : Option Value → Mem → Prop} {x : Int32} (hd : decode md.2.1 pc = .ok (.i2c, 1)) (hp : pc + 1 = pc') (k : GW xs d md pc' lv (.int (x.toUInt32 % 65536).toInt32 :: rest) M Q) : GW xs d md pc lv (.int x :: rest) M Q := by
  subst hp
  intro p l e R s m args below meth c G A cells slots Z cx hr H locs ls hP hS hl
  exact lv_i2c cx.1 cx.2.1 hd rfl (k p l e R s m args below meth c G A cells slots Z cx hr H locs ls hP hS hl)
theorem GW.iushr {xs : gX} {d : Nat} {md : gM} {pc pc' : Nat} {lv : List (Nat × Value)} {rest : List Value} {M : Mem} {Q : Option Value → Mem → Prop} {x y : Int32} (hd : decode md.2.1 pc = .ok (.iushr, 1)) (hp : pc + 1 = pc') (k : GW xs d md pc' lv (.int (x.toUInt32 >>> (y.toUInt32 &&& Int32.toUInt32 31)).toInt32 :: rest) M Q) : GW xs d md pc lv (.int y :: .int x :: rest) M Q := by
  subst hp
  intro p l e R s m args below meth c G A cells slots Z cx hr H locs ls hP hS hl
  exact lv_iushr cx.1 cx.2.1 hd rfl (k p l e R s m args below meth c G A cells slots Z cx hr H locs ls hP hS hl)
theorem GW.lushr {xs : gX} {d : Nat} {md : gM} {pc pc' : Nat} {lv : List (Nat × Value)} {rest : List Value} {M : Mem} {Q : Option Value → Mem → Prop} {x : Int64} {y : Int32} (hd : decode md.2.1 pc = .ok (.lushr, 1)) (hp : pc + 1 = pc') (k : GW xs d md pc' lv (.long ((x.toUInt64 >>> (y.toInt64.toUInt64 &&& Int64.toUInt64 63)).toInt64) :: rest) M Q) : GW xs d md pc lv (.int y :: .long x :: rest) M Q := by
  subst hp
  intro p l e R s m args below meth c G A cells slots Z cx hr H locs ls hP hS hl
  exact lv_lushr cx.1 cx.2.1 hd rfl (k p l e R s m args below meth c G A cells slots Z cx hr H locs ls hP hS hl)
theorem GW.lshl {xs : gX} {d : Nat} {md : gM} {pc pc' : Nat} {lv : List (Nat × Value)} {rest : List Value} {M : Mem} {Q : Option Value → Mem → Prop} {x : Int64} {y : Int32} (hd : decode md.2.1 pc = .ok (.lshl, 1)) (hp : pc + 1 = pc') (k : GW xs d md pc' lv (.long (x <<< (y.toInt64 &&& 63)) :: rest) M Q) : GW xs d md pc lv (.int y :: .long x :: rest) M Q := by
  subst hp
  intro p l e R s m args below meth c G A cells slots Z cx hr H locs ls hP hS hl
  exact lv_lshl cx.1 cx.2.1 hd rfl (k p l e R s m args below meth c G A cells slots Z cx hr H locs ls hP hS hl)
theorem GW.lshr {xs : gX} {d : Nat} {md : gM} {pc pc' : Nat} {lv : List (Nat × Value)} {rest : List Value} {M : Mem} {Q : Option Value → Mem → Prop} {x : Int64} {y : Int32} (hd : decode md.2.1 pc = .ok (.lshr, 1)) (hp : pc + 1 = pc') (k : GW xs d md pc' lv (.long (x >>> (y.toInt64 &&& 63)) :: rest) M Q) : GW xs d md pc lv (.int y :: .long x :: rest) M Q := by
  subst hp
  intro p l e R s m args below meth c G A cells slots Z cx hr H locs ls hP hS hl
  exact lv_lshr cx.1 cx.2.1 hd rfl (k p l e R s m args below meth c G A cells slots Z cx hr H locs ls hP hS hl)
theorem GW.iconst {xs : gX} {d : Nat} {md : gM} {pc pc' : Nat} {lv : List (Nat × Value)} {rest : List Value} {M : Mem} {Q : Option Value → Mem → Prop} {n : Int} {v : Int32} (hd : decode md.2.1 pc = .ok (.iconst n, 1)) (hp : pc + 1 = pc') (hv : Int32.ofInt n = v) (k : GW xs d md pc' lv (.int v :: rest) M Q) : GW xs d md pc lv (rest) M Q := by
  subst hp
  intro p l e R s m args below meth c G A cells slots Z cx hr H locs ls hP hS hl
  exact lv_iconst cx.1 cx.2.1 hd hv (k p l e R s m args below meth c G A cells slots Z cx hr H locs ls hP hS hl)
theorem GW.bipush {xs : gX} {d : Nat} {md : gM} {pc pc' : Nat} {lv : List (Nat × Value)} {rest : List Value} {M : Mem} {Q : Option Value → Mem → Prop} {n : Int} {v : Int32} (hd : decode md.2.1 pc = .ok (.bipush n, 2)) (hp : pc + 2 = pc') (hv : (Int8.ofInt n).toInt32 = v) (k : GW xs d md pc' lv (.int v :: rest) M Q) : GW xs d md pc lv (rest) M Q := by
  subst hp
  intro p l e R s m args below meth c G A cells slots Z cx hr H locs ls hP hS hl
  exact lv_bipush cx.1 cx.2.1 hd hv (k p l e R s m args below meth c G A cells slots Z cx hr H locs ls hP hS hl)
theorem GW.sipush {xs : gX} {d : Nat} {md : gM} {pc pc' : Nat} {lv : List (Nat × Value)} {rest : List Value} {M : Mem} {Q : Option Value → Mem → Prop} {n : Int} {v : Int32} (hd : decode md.2.1 pc = .ok (.sipush n, 3)) (hp : pc + 3 = pc') (hv : (Int16.ofInt n).toInt32 = v) (k : GW xs d md pc' lv (.int v :: rest) M Q) : GW xs d md pc lv (rest) M Q := by
  subst hp
  intro p l e R s m args below meth c G A cells slots Z cx hr H locs ls hP hS hl
  exact lv_sipush cx.1 cx.2.1 hd hv (k p l e R s m args below meth c G A cells slots Z cx hr H locs ls hP hS hl)
theorem GW.lconst {xs : gX} {d : Nat} {md : gM} {pc pc' : Nat} {lv : List (Nat × Value)} {rest : List Value} {M : Mem} {Q : Option Value → Mem → Prop} {n : Fin 2} {v : Int64} (hd : decode md.2.1 pc = .ok (.lconst n, 1)) (hp : pc + 1 = pc') (hv : Int64.ofNat (n : Nat) = v) (k : GW xs d md pc' lv (.long v :: rest) M Q) : GW xs d md pc lv (rest) M Q := by
  subst hp
  intro p l e R s m args below meth c G A cells slots Z cx hr H locs ls hP hS hl
  exact lv_lconst cx.1 cx.2.1 hd hv (k p l e R s m args below meth c G A cells slots Z cx hr H locs ls hP hS hl)
theorem GW.ldc {xs : gX} {d : Nat} {md : gM} {pc pc' : Nat} {lv : List (Nat × Value)} {rest : List Value} {M : Mem} {Q : Option Value → Mem → Prop} {index : Nat} {v : Int32} (hd : decode md.2.1 pc = .ok (.ldc index, 2)) (hp : pc + 2 = pc') (hc : Cond.constant md.1.cls index v ∈ tblG) (k : GW xs d md pc' lv (.int v :: rest) M Q) : GW xs d md pc lv (rest) M Q := by
  subst hp
  intro p l e R s m args below meth c G A cells slots Z cx hr H locs ls hP hS hl
  exact lv_ldc cx.1 cx.2.1 cx.2.2.2.1 (cx.2.2.2.2.1 _ hc) hd (k p l e R s m args below meth c G A cells slots Z cx hr H locs ls hP hS hl)
theorem GW.ldcw {xs : gX} {d : Nat} {md : gM} {pc pc' : Nat} {lv : List (Nat × Value)} {rest : List Value} {M : Mem} {Q : Option Value → Mem → Prop} {index : Nat} {v : Int32} (hd : decode md.2.1 pc = .ok (.ldc_w index, 3)) (hp : pc + 3 = pc') (hc : Cond.constant md.1.cls index v ∈ tblG) (k : GW xs d md pc' lv (.int v :: rest) M Q) : GW xs d md pc lv (rest) M Q := by
  subst hp
  intro p l e R s m args below meth c G A cells slots Z cx hr H locs ls hP hS hl
  exact lv_ldcw cx.1 cx.2.1 cx.2.2.2.1 (cx.2.2.2.2.1 _ hc) hd (k p l e R s m args below meth c G A cells slots Z cx hr H locs ls hP hS hl)
theorem GW.ldc2 {xs : gX} {d : Nat} {md : gM} {pc pc' : Nat} {lv : List (Nat × Value)} {rest : List Value} {M : Mem} {Q : Option Value → Mem → Prop} {index : Nat} {v : Int64} (hd : decode md.2.1 pc = .ok (.ldc2_w index, 3)) (hp : pc + 3 = pc') (hc : Cond.constantLong md.1.cls index v ∈ tblG) (k : GW xs d md pc' lv (.long v :: rest) M Q) : GW xs d md pc lv (rest) M Q := by
  subst hp
  intro p l e R s m args below meth c G A cells slots Z cx hr H locs ls hP hS hl
  exact lv_ldc2 cx.1 cx.2.1 cx.2.2.2.1 (cx.2.2.2.2.1 _ hc) hd (k p l e R s m args below meth c G A cells slots Z cx hr H locs ls hP hS hl)
theorem GW.dup {xs : gX} {d : Nat} {md : gM} {pc pc' : Nat} {lv : List (Nat × Value)} {rest : List Value} {M : Mem} {Q : Option Value → Mem → Prop} {va : Value} (hd : decode md.2.1 pc = .ok (.dup, 1)) (hp : pc + 1 = pc') (ha : va.category = 1) (k : GW xs d md pc' lv (va :: va :: rest) M Q) : GW xs d md pc lv (va :: rest) M Q := by
  subst hp
  intro p l e R s m args below meth c G A cells slots Z cx hr H locs ls hP hS hl
  exact lv_dup cx.1 cx.2.1 hd ((cv_cat G va).trans ha) (k p l e R s m args below meth c G A cells slots Z cx hr H locs ls hP hS hl)
theorem GW.pop {xs : gX} {d : Nat} {md : gM} {pc pc' : Nat} {lv : List (Nat × Value)} {rest : List Value} {M : Mem} {Q : Option Value → Mem → Prop} {va : Value} (hd : decode md.2.1 pc = .ok (.pop, 1)) (hp : pc + 1 = pc') (ha : va.category = 1) (k : GW xs d md pc' lv (rest) M Q) : GW xs d md pc lv (va :: rest) M Q := by
  subst hp
  intro p l e R s m args below meth c G A cells slots Z cx hr H locs ls hP hS hl
  exact lv_pop cx.1 cx.2.1 hd ((cv_cat G va).trans ha) (k p l e R s m args below meth c G A cells slots Z cx hr H locs ls hP hS hl)
theorem GW.dup2 {xs : gX} {d : Nat} {md : gM} {pc pc' : Nat} {lv : List (Nat × Value)} {rest : List Value} {M : Mem} {Q : Option Value → Mem → Prop} {va vb : Value} (hd : decode md.2.1 pc = .ok (.dup2, 1)) (hp : pc + 1 = pc') (ha : va.category = 1) (hb : vb.category = 1) (k : GW xs d md pc' lv (va :: vb :: va :: vb :: rest) M Q) : GW xs d md pc lv (va :: vb :: rest) M Q := by
  subst hp
  intro p l e R s m args below meth c G A cells slots Z cx hr H locs ls hP hS hl
  exact lv_dup2_11 cx.1 cx.2.1 hd ((cv_cat G va).trans ha) ((cv_cat G vb).trans hb) (k p l e R s m args below meth c G A cells slots Z cx hr H locs ls hP hS hl)
theorem GW.dup_x1 {xs : gX} {d : Nat} {md : gM} {pc pc' : Nat} {lv : List (Nat × Value)} {rest : List Value} {M : Mem} {Q : Option Value → Mem → Prop} {va vb : Value} (hd : decode md.2.1 pc = .ok (.dup_x1, 1)) (hp : pc + 1 = pc') (ha : va.category = 1) (hb : vb.category = 1) (k : GW xs d md pc' lv (va :: vb :: va :: rest) M Q) : GW xs d md pc lv (va :: vb :: rest) M Q := by
  subst hp
  intro p l e R s m args below meth c G A cells slots Z cx hr H locs ls hP hS hl
  exact lv_dup_x1 cx.1 cx.2.1 hd ((cv_cat G va).trans ha) ((cv_cat G vb).trans hb) (k p l e R s m args below meth c G A cells slots Z cx hr H locs ls hP hS hl)
theorem GW.iload_n {xs : gX} {d : Nat} {md : gM} {pc pc' : Nat} {lv : List (Nat × Value)} {rest : List Value} {M : Mem} {Q : Option Value → Mem → Prop} {j : Fin 4} {x : Int32} (hd : decode md.2.1 pc = .ok (.iload_n j, 1)) (hp : pc + 1 = pc') (hv : lget lv (j : Nat) = some (.int x)) (k : GW xs d md pc' lv (.int x :: rest) M Q) : GW xs d md pc lv (rest) M Q := by
  subst hp
  intro p l e R s m args below meth c G A cells slots Z cx hr H locs ls hP hS hl
  exact lv_iload_n cx.1 cx.2.1 hd rfl (lg_at hl hv) (k p l e R s m args below meth c G A cells slots Z cx hr H locs ls hP hS hl)
theorem GW.iload {xs : gX} {d : Nat} {md : gM} {pc pc' : Nat} {lv : List (Nat × Value)} {rest : List Value} {M : Mem} {Q : Option Value → Mem → Prop} {j : Nat} {x : Int32} (hd : decode md.2.1 pc = .ok (.iload j, 2)) (hp : pc + 2 = pc') (hv : lget lv j = some (.int x)) (k : GW xs d md pc' lv (.int x :: rest) M Q) : GW xs d md pc lv (rest) M Q := by
  subst hp
  intro p l e R s m args below meth c G A cells slots Z cx hr H locs ls hP hS hl
  exact lv_iload cx.1 cx.2.1 hd (lg_at hl hv) (k p l e R s m args below meth c G A cells slots Z cx hr H locs ls hP hS hl)
theorem GW.aload_n {xs : gX} {d : Nat} {md : gM} {pc pc' : Nat} {lv : List (Nat × Value)} {rest : List Value} {M : Mem} {Q : Option Value → Mem → Prop} {j : Fin 4} {x : Nat} (hd : decode md.2.1 pc = .ok (.aload_n j, 1)) (hp : pc + 1 = pc') (hv : lget lv (j : Nat) = some (.ref x)) (k : GW xs d md pc' lv (.ref x :: rest) M Q) : GW xs d md pc lv (rest) M Q := by
  subst hp
  intro p l e R s m args below meth c G A cells slots Z cx hr H locs ls hP hS hl
  exact lv_aload_n cx.1 cx.2.1 hd rfl (lg_at hl hv) (k p l e R s m args below meth c G A cells slots Z cx hr H locs ls hP hS hl)
theorem GW.aload {xs : gX} {d : Nat} {md : gM} {pc pc' : Nat} {lv : List (Nat × Value)} {rest : List Value} {M : Mem} {Q : Option Value → Mem → Prop} {j : Nat} {x : Nat} (hd : decode md.2.1 pc = .ok (.aload j, 2)) (hp : pc + 2 = pc') (hv : lget lv j = some (.ref x)) (k : GW xs d md pc' lv (.ref x :: rest) M Q) : GW xs d md pc lv (rest) M Q := by
  subst hp
  intro p l e R s m args below meth c G A cells slots Z cx hr H locs ls hP hS hl
  exact lv_aload cx.1 cx.2.1 hd (lg_at hl hv) (k p l e R s m args below meth c G A cells slots Z cx hr H locs ls hP hS hl)
theorem GW.lload_n {xs : gX} {d : Nat} {md : gM} {pc pc' : Nat} {lv : List (Nat × Value)} {rest : List Value} {M : Mem} {Q : Option Value → Mem → Prop} {j : Fin 4} {x : Int64} (hd : decode md.2.1 pc = .ok (.lload_n j, 1)) (hp : pc + 1 = pc') (hv : lget lv (j : Nat) = some (.long x)) (k : GW xs d md pc' lv (.long x :: rest) M Q) : GW xs d md pc lv (rest) M Q := by
  subst hp
  intro p l e R s m args below meth c G A cells slots Z cx hr H locs ls hP hS hl
  exact lv_lload_n cx.1 cx.2.1 hd rfl (lg_at hl hv) (k p l e R s m args below meth c G A cells slots Z cx hr H locs ls hP hS hl)
theorem GW.lload {xs : gX} {d : Nat} {md : gM} {pc pc' : Nat} {lv : List (Nat × Value)} {rest : List Value} {M : Mem} {Q : Option Value → Mem → Prop} {j : Nat} {x : Int64} (hd : decode md.2.1 pc = .ok (.lload j, 2)) (hp : pc + 2 = pc') (hv : lget lv j = some (.long x)) (k : GW xs d md pc' lv (.long x :: rest) M Q) : GW xs d md pc lv (rest) M Q := by
  subst hp
  intro p l e R s m args below meth c G A cells slots Z cx hr H locs ls hP hS hl
  exact lv_lload cx.1 cx.2.1 hd (lg_at hl hv) (k p l e R s m args below meth c G A cells slots Z cx hr H locs ls hP hS hl)
theorem GW.istore_n {xs : gX} {d : Nat} {md : gM} {pc pc' : Nat} {lv : List (Nat × Value)} {rest : List Value} {M : Mem} {Q : Option Value → Mem → Prop} {lv' : List (Nat × Value)} {j : Fin 4} {x : Int32} (hd : decode md.2.1 pc = .ok (.istore_n j, 1)) (hp : pc + 1 = pc') (hk : lok1 lv (j : Nat) = true) (hn : (j : Nat) < md.2.2.1) (hl' : lset lv (j : Nat) (.int x) = lv') (k : GW xs d md pc' lv' rest M Q) : GW xs d md pc lv (.int x :: rest) M Q := by
  subst hp hl'
  intro p l e R s m args below meth c G A cells slots Z cx hr H locs ls hP hS hl
  exact lv_istore_n cx.1 cx.2.1 hd rfl hl hn rfl (fun ls hl => (k p l e R s m args below meth c G A cells slots Z cx hr H locs ls hP hS (lset_has (v := .int x) hk hl)))
theorem GW.istore {xs : gX} {d : Nat} {md : gM} {pc pc' : Nat} {lv : List (Nat × Value)} {rest : List Value} {M : Mem} {Q : Option Value → Mem → Prop} {lv' : List (Nat × Value)} {j : Nat} {x : Int32} (hd : decode md.2.1 pc = .ok (.istore j, 2)) (hp : pc + 2 = pc') (hk : lok1 lv (j : Nat) = true) (hn : (j : Nat) < md.2.2.1) (hl' : lset lv (j : Nat) (.int x) = lv') (k : GW xs d md pc' lv' rest M Q) : GW xs d md pc lv (.int x :: rest) M Q := by
  subst hp hl'
  intro p l e R s m args below meth c G A cells slots Z cx hr H locs ls hP hS hl
  exact lv_istore cx.1 cx.2.1 hd hl hn rfl (fun ls hl => (k p l e R s m args below meth c G A cells slots Z cx hr H locs ls hP hS (lset_has (v := .int x) hk hl)))
theorem GW.astore_n {xs : gX} {d : Nat} {md : gM} {pc pc' : Nat} {lv : List (Nat × Value)} {rest : List Value} {M : Mem} {Q : Option Value → Mem → Prop} {lv' : List (Nat × Value)} {j : Fin 4} {x : Nat} (hd : decode md.2.1 pc = .ok (.astore_n j, 1)) (hp : pc + 1 = pc') (hk : lok1 lv (j : Nat) = true) (hn : (j : Nat) < md.2.2.1) (hl' : lset lv (j : Nat) (.ref x) = lv') (k : GW xs d md pc' lv' rest M Q) : GW xs d md pc lv (.ref x :: rest) M Q := by
  subst hp hl'
  intro p l e R s m args below meth c G A cells slots Z cx hr H locs ls hP hS hl
  exact lv_astore_n cx.1 cx.2.1 hd rfl hl hn rfl (fun ls hl => (k p l e R s m args below meth c G A cells slots Z cx hr H locs ls hP hS (lset_has (v := .ref x) hk hl)))
theorem GW.astore {xs : gX} {d : Nat} {md : gM} {pc pc' : Nat} {lv : List (Nat × Value)} {rest : List Value} {M : Mem} {Q : Option Value → Mem → Prop} {lv' : List (Nat × Value)} {j : Nat} {x : Nat} (hd : decode md.2.1 pc = .ok (.astore j, 2)) (hp : pc + 2 = pc') (hk : lok1 lv (j : Nat) = true) (hn : (j : Nat) < md.2.2.1) (hl' : lset lv (j : Nat) (.ref x) = lv') (k : GW xs d md pc' lv' rest M Q) : GW xs d md pc lv (.ref x :: rest) M Q := by
  subst hp hl'
  intro p l e R s m args below meth c G A cells slots Z cx hr H locs ls hP hS hl
  exact lv_astore cx.1 cx.2.1 hd hl hn rfl (fun ls hl => (k p l e R s m args below meth c G A cells slots Z cx hr H locs ls hP hS (lset_has (v := .ref x) hk hl)))
theorem GW.lstore_n {xs : gX} {d : Nat} {md : gM} {pc pc' : Nat} {lv : List (Nat × Value)} {rest : List Value} {M : Mem} {Q : Option Value → Mem → Prop} {lv' : List (Nat × Value)} {j : Fin 4} {x : Int64} (hd : decode md.2.1 pc = .ok (.lstore_n j, 1)) (hp : pc + 1 = pc') (hk : lok2 lv (j : Nat) = true) (hn : (j : Nat) + 1 < md.2.2.1) (hl' : lset lv (j : Nat) (.long x) = lv') (k : GW xs d md pc' lv' rest M Q) : GW xs d md pc lv (.long x :: rest) M Q := by
  subst hp hl'
  intro p l e R s m args below meth c G A cells slots Z cx hr H locs ls hP hS hl
  exact lv_lstore_n cx.1 cx.2.1 hd rfl hl hn rfl (fun ls hl => (k p l e R s m args below meth c G A cells slots Z cx hr H locs ls hP hS (lset_has2 (v := .long x) hk hl)))
theorem GW.lstore {xs : gX} {d : Nat} {md : gM} {pc pc' : Nat} {lv : List (Nat × Value)} {rest : List Value} {M : Mem} {Q : Option Value → Mem → Prop} {lv' : List (Nat × Value)} {j : Nat} {x : Int64} (hd : decode md.2.1 pc = .ok (.lstore j, 2)) (hp : pc + 2 = pc') (hk : lok2 lv (j : Nat) = true) (hn : (j : Nat) + 1 < md.2.2.1) (hl' : lset lv (j : Nat) (.long x) = lv') (k : GW xs d md pc' lv' rest M Q) : GW xs d md pc lv (.long x :: rest) M Q := by
  subst hp hl'
  intro p l e R s m args below meth c G A cells slots Z cx hr H locs ls hP hS hl
  exact lv_lstore cx.1 cx.2.1 hd hl hn rfl (fun ls hl => (k p l e R s m args below meth c G A cells slots Z cx hr H locs ls hP hS (lset_has2 (v := .long x) hk hl)))
theorem GW.iinc {xs : gX} {d : Nat} {md : gM} {pc pc' : Nat} {lv : List (Nat × Value)} {rest : List Value} {M : Mem} {Q : Option Value → Mem → Prop} {lv' : List (Nat × Value)} {j : Nat} {n : Int} {x v : Int32} (hd : decode md.2.1 pc = .ok (.iinc j n, 3)) (hp : pc + 3 = pc') (hk : lok1 lv j = true) (hn : j < md.2.2.1) (hx : lget lv j = some (.int x)) (hv : x + Int32.ofInt n = v) (hl' : lset lv j (.int v) = lv') (k : GW xs d md pc' lv' rest M Q) : GW xs d md pc lv rest M Q := by
  subst hp hl'
  intro p l e R s m args below meth c G A cells slots Z cx hr H locs ls hP hS hl
  obtain ⟨i, hi⟩ := List.getElem?_of_mem (List.mem_map.mpr ⟨(j, .int x), lget_mem hx, rfl⟩ : (j, cvV G (.int x)) ∈ lvl G lv)
  exact lv_iinc cx.1 cx.2.1 hd hl (k := i) hi hv hn rfl (fun ls hl => (k p l e R s m args below meth c G A cells slots Z cx hr H locs ls hP hS (lset_has (v := .int v) hk hl)))
theorem GW.if_icmpeq {xs : gX} {d : Nat} {md : gM} {pc pc' : Nat} {lv : List (Nat × Value)} {rest : List Value} {M : Mem} {Q : Option Value → Mem → Prop} {off : Int} {tgt : Nat} {x y : Int32} (hd : decode md.2.1 pc = .ok (.if_icmp .eq off, 3)) (hp : pc + 3 = pc') (ht : (pc : Int) + off = (tgt : Int)) (k : if x = y then GW xs d md tgt lv rest M Q else GW xs d md pc' lv rest M Q) : GW xs d md pc lv (.int y :: .int x :: rest) M Q := by
  subst hp
  intro p l e R s m args below meth c G A cells slots Z cx hr H locs ls hP hS hl
  refine lv_icmp_eq cx.1 cx.2.1 hd ht (fun q => ?_) (fun q => ?_)
  · rw [if_pos q] at k
    exact (k p l e R s m args below meth c G A cells slots Z cx hr H locs ls hP hS hl)
  · rw [if_neg q] at k
    exact (k p l e R s m args below meth c G A cells slots Z cx hr H locs ls hP hS hl)
theorem GW.if_icmplt {xs : gX} {d : Nat} {md : gM} {pc pc' : Nat} {lv : List (Nat × Value)} {rest : List Value} {M : Mem} {Q : Option Value → Mem → Prop} {off : Int} {tgt : Nat} {x y : Int32} (hd : decode md.2.1 pc = .ok (.if_icmp .lt off, 3)) (hp : pc + 3 = pc') (ht : (pc : Int) + off = (tgt : Int)) (k : if x < y then GW xs d md tgt lv rest M Q else GW xs d md pc' lv rest M Q) : GW xs d md pc lv (.int y :: .int x :: rest) M Q := by
  subst hp
  intro p l e R s m args below meth c G A cells slots Z cx hr H locs ls hP hS hl
  refine lv_icmp_lt cx.1 cx.2.1 hd ht (fun q => ?_) (fun q => ?_)
  · rw [if_pos q] at k
    exact (k p l e R s m args below meth c G A cells slots Z cx hr H locs ls hP hS hl)
  · rw [if_neg q] at k
    exact (k p l e R s m args below meth c G A cells slots Z cx hr H locs ls hP hS hl)
theorem GW.if_icmpgt {xs : gX} {d : Nat} {md : gM} {pc pc' : Nat} {lv : List (Nat × Value)} {rest : List Value} {M : Mem} {Q : Option Value → Mem → Prop} {off : Int} {tgt : Nat} {x y : Int32} (hd : decode md.2.1 pc = .ok (.if_icmp .gt off, 3)) (hp : pc + 3 = pc') (ht : (pc : Int) + off = (tgt : Int)) (k : if y < x then GW xs d md tgt lv rest M Q else GW xs d md pc' lv rest M Q) : GW xs d md pc lv (.int y :: .int x :: rest) M Q := by
  subst hp
  intro p l e R s m args below meth c G A cells slots Z cx hr H locs ls hP hS hl
  refine lv_icmp_gt cx.1 cx.2.1 hd ht (fun q => ?_) (fun q => ?_)
  · rw [if_pos q] at k
    exact (k p l e R s m args below meth c G A cells slots Z cx hr H locs ls hP hS hl)
  · rw [if_neg q] at k
    exact (k p l e R s m args below meth c G A cells slots Z cx hr H locs ls hP hS hl)
theorem GW.ifeq {xs : gX} {d : Nat} {md : gM} {pc pc' : Nat} {lv : List (Nat × Value)} {rest : List Value} {M : Mem} {Q : Option Value → Mem → Prop} {off : Int} {tgt : Nat} {x : Int32} (hd : decode md.2.1 pc = .ok (.ifCond .eq off, 3)) (hp : pc + 3 = pc') (ht : (pc : Int) + off = (tgt : Int)) (k : if x = 0 then GW xs d md tgt lv rest M Q else GW xs d md pc' lv rest M Q) : GW xs d md pc lv (.int x :: rest) M Q := by
  subst hp
  intro p l e R s m args below meth c G A cells slots Z cx hr H locs ls hP hS hl
  refine lv_if_eq cx.1 cx.2.1 hd ht (fun q => ?_) (fun q => ?_)
  · rw [if_pos q] at k
    exact (k p l e R s m args below meth c G A cells slots Z cx hr H locs ls hP hS hl)
  · rw [if_neg q] at k
    exact (k p l e R s m args below meth c G A cells slots Z cx hr H locs ls hP hS hl)
theorem GW.iflt {xs : gX} {d : Nat} {md : gM} {pc pc' : Nat} {lv : List (Nat × Value)} {rest : List Value} {M : Mem} {Q : Option Value → Mem → Prop} {off : Int} {tgt : Nat} {x : Int32} (hd : decode md.2.1 pc = .ok (.ifCond .lt off, 3)) (hp : pc + 3 = pc') (ht : (pc : Int) + off = (tgt : Int)) (k : if x < 0 then GW xs d md tgt lv rest M Q else GW xs d md pc' lv rest M Q) : GW xs d md pc lv (.int x :: rest) M Q := by
  subst hp
  intro p l e R s m args below meth c G A cells slots Z cx hr H locs ls hP hS hl
  refine lv_if_lt cx.1 cx.2.1 hd ht (fun q => ?_) (fun q => ?_)
  · rw [if_pos q] at k
    exact (k p l e R s m args below meth c G A cells slots Z cx hr H locs ls hP hS hl)
  · rw [if_neg q] at k
    exact (k p l e R s m args below meth c G A cells slots Z cx hr H locs ls hP hS hl)
theorem GW.ifgt {xs : gX} {d : Nat} {md : gM} {pc pc' : Nat} {lv : List (Nat × Value)} {rest : List Value} {M : Mem} {Q : Option Value → Mem → Prop} {off : Int} {tgt : Nat} {x : Int32} (hd : decode md.2.1 pc = .ok (.ifCond .gt off, 3)) (hp : pc + 3 = pc') (ht : (pc : Int) + off = (tgt : Int)) (k : if 0 < x then GW xs d md tgt lv rest M Q else GW xs d md pc' lv rest M Q) : GW xs d md pc lv (.int x :: rest) M Q := by
  subst hp
  intro p l e R s m args below meth c G A cells slots Z cx hr H locs ls hP hS hl
  refine lv_if_gt cx.1 cx.2.1 hd ht (fun q => ?_) (fun q => ?_)
  · rw [if_pos q] at k
    exact (k p l e R s m args below meth c G A cells slots Z cx hr H locs ls hP hS hl)
  · rw [if_neg q] at k
    exact (k p l e R s m args below meth c G A cells slots Z cx hr H locs ls hP hS hl)
theorem GW.if_icmpne {xs : gX} {d : Nat} {md : gM} {pc pc' : Nat} {lv : List (Nat × Value)} {rest : List Value} {M : Mem} {Q : Option Value → Mem → Prop} {off : Int} {tgt : Nat} {x y : Int32} (hd : decode md.2.1 pc = .ok (.if_icmp .ne off, 3)) (hp : pc + 3 = pc') (ht : (pc : Int) + off = (tgt : Int)) (k : if x = y then GW xs d md pc' lv rest M Q else GW xs d md tgt lv rest M Q) : GW xs d md pc lv (.int y :: .int x :: rest) M Q := by
  subst hp
  intro p l e R s m args below meth c G A cells slots Z cx hr H locs ls hP hS hl
  refine lv_icmp_ne cx.1 cx.2.1 hd ht (fun q => ?_) (fun q => ?_)
  · rw [if_neg q] at k
    exact (k p l e R s m args below meth c G A cells slots Z cx hr H locs ls hP hS hl)
  · rw [if_pos q] at k
    exact (k p l e R s m args below meth c G A cells slots Z cx hr H locs ls hP hS hl)
theorem GW.ifne {xs : gX} {d : Nat} {md : gM} {pc pc' : Nat} {lv : List (Nat × Value)} {rest : List Value} {M : Mem} {Q : Option Value → Mem → Prop} {off : Int} {tgt : Nat} {x : Int32} (hd : decode md.2.1 pc = .ok (.ifCond .ne off, 3)) (hp : pc + 3 = pc') (ht : (pc : Int) + off = (tgt : Int)) (k : if x = 0 then GW xs d md pc' lv rest M Q else GW xs d md tgt lv rest M Q) : GW xs d md pc lv (.int x :: rest) M Q := by
  subst hp
  intro p l e R s m args below meth c G A cells slots Z cx hr H locs ls hP hS hl
  refine lv_if_ne cx.1 cx.2.1 hd ht (fun q => ?_) (fun q => ?_)
  · rw [if_neg q] at k
    exact (k p l e R s m args below meth c G A cells slots Z cx hr H locs ls hP hS hl)
  · rw [if_pos q] at k
    exact (k p l e R s m args below meth c G A cells slots Z cx hr H locs ls hP hS hl)
theorem GW.if_icmpge {xs : gX} {d : Nat} {md : gM} {pc pc' : Nat} {lv : List (Nat × Value)} {rest : List Value} {M : Mem} {Q : Option Value → Mem → Prop} {off : Int} {tgt : Nat} {x y : Int32} (hd : decode md.2.1 pc = .ok (.if_icmp .ge off, 3)) (hp : pc + 3 = pc') (ht : (pc : Int) + off = (tgt : Int)) (k : if x < y then GW xs d md pc' lv rest M Q else GW xs d md tgt lv rest M Q) : GW xs d md pc lv (.int y :: .int x :: rest) M Q := by
  subst hp
  intro p l e R s m args below meth c G A cells slots Z cx hr H locs ls hP hS hl
  refine lv_icmp_ge cx.1 cx.2.1 hd ht (fun q => ?_) (fun q => ?_)
  · rw [if_neg (Int32.not_lt.mpr q)] at k
    exact (k p l e R s m args below meth c G A cells slots Z cx hr H locs ls hP hS hl)
  · rw [if_pos (Int32.not_le.mp q)] at k
    exact (k p l e R s m args below meth c G A cells slots Z cx hr H locs ls hP hS hl)
theorem GW.if_icmple {xs : gX} {d : Nat} {md : gM} {pc pc' : Nat} {lv : List (Nat × Value)} {rest : List Value} {M : Mem} {Q : Option Value → Mem → Prop} {off : Int} {tgt : Nat} {x y : Int32} (hd : decode md.2.1 pc = .ok (.if_icmp .le off, 3)) (hp : pc + 3 = pc') (ht : (pc : Int) + off = (tgt : Int)) (k : if y < x then GW xs d md pc' lv rest M Q else GW xs d md tgt lv rest M Q) : GW xs d md pc lv (.int y :: .int x :: rest) M Q := by
  subst hp
  intro p l e R s m args below meth c G A cells slots Z cx hr H locs ls hP hS hl
  refine lv_icmp_le cx.1 cx.2.1 hd ht (fun q => ?_) (fun q => ?_)
  · rw [if_neg (Int32.not_lt.mpr q)] at k
    exact (k p l e R s m args below meth c G A cells slots Z cx hr H locs ls hP hS hl)
  · rw [if_pos (Int32.not_le.mp q)] at k
    exact (k p l e R s m args below meth c G A cells slots Z cx hr H locs ls hP hS hl)
theorem GW.ifge {xs : gX} {d : Nat} {md : gM} {pc pc' : Nat} {lv : List (Nat × Value)} {rest : List Value} {M : Mem} {Q : Option Value → Mem → Prop} {off : Int} {tgt : Nat} {x : Int32} (hd : decode md.2.1 pc = .ok (.ifCond .ge off, 3)) (hp : pc + 3 = pc') (ht : (pc : Int) + off = (tgt : Int)) (k : if x < 0 then GW xs d md pc' lv rest M Q else GW xs d md tgt lv rest M Q) : GW xs d md pc lv (.int x :: rest) M Q := by
  subst hp
  intro p l e R s m args below meth c G A cells slots Z cx hr H locs ls hP hS hl
  refine lv_if_ge cx.1 cx.2.1 hd ht (fun q => ?_) (fun q => ?_)
  · rw [if_neg (Int32.not_lt.mpr q)] at k
    exact (k p l e R s m args below meth c G A cells slots Z cx hr H locs ls hP hS hl)
  · rw [if_pos (Int32.not_le.mp q)] at k
    exact (k p l e R s m args below meth c G A cells slots Z cx hr H locs ls hP hS hl)
theorem GW.ifle {xs : gX} {d : Nat} {md : gM} {pc pc' : Nat} {lv : List (Nat × Value)} {rest : List Value} {M : Mem} {Q : Option Value → Mem → Prop} {off : Int} {tgt : Nat} {x : Int32} (hd : decode md.2.1 pc = .ok (.ifCond .le off, 3)) (hp : pc + 3 = pc') (ht : (pc : Int) + off = (tgt : Int)) (k : if 0 < x then GW xs d md pc' lv rest M Q else GW xs d md tgt lv rest M Q) : GW xs d md pc lv (.int x :: rest) M Q := by
  subst hp
  intro p l e R s m args below meth c G A cells slots Z cx hr H locs ls hP hS hl
  refine lv_if_le cx.1 cx.2.1 hd ht (fun q => ?_) (fun q => ?_)
  · rw [if_neg (Int32.not_lt.mpr q)] at k
    exact (k p l e R s m args below meth c G A cells slots Z cx hr H locs ls hP hS hl)
  · rw [if_pos (Int32.not_le.mp q)] at k
    exact (k p l e R s m args below meth c G A cells slots Z cx hr H locs ls hP hS hl)
theorem GW.goto {xs : gX} {d : Nat} {md : gM} {pc : Nat} {lv : List (Nat × Value)} {rest : List Value} {M : Mem} {Q : Option Value → Mem → Prop} {off : Int} {tgt : Nat} (hd : decode md.2.1 pc = .ok (.goto off, 3)) (ht : (pc : Int) + off = (tgt : Int)) (k : GW xs d md tgt lv rest M Q) : GW xs d md pc lv rest M Q := by
  intro p l e R s m args below meth c G A cells slots Z cx hr H locs ls hP hS hl
  exact lv_goto cx.1 cx.2.1 hd ht (k p l e R s m args below meth c G A cells slots Z cx hr H locs ls hP hS hl)
theorem GW.tswIn {xs : gX} {d : Nat} {md : gM} {pc : Nat} {lv : List (Nat × Value)} {rest : List Value} {M : Mem} {Q : Option Value → Mem → Prop} {dflt lo hi : Int} {offs : Array Int} {len : Nat} {x : Int32} {v off : Int} {tgt : Nat} (hd : decode md.2.1 pc = .ok (.tableswitch dflt lo hi offs, len)) (hx : x.toInt = v) (h1 : ¬ v < lo) (h2 : ¬ hi < v) (ho : offs[(v - lo).toNat]? = some off) (ht : (pc : Int) + off = (tgt : Int)) (k : GW xs d md tgt lv rest M Q) : GW xs d md pc lv (.int x :: rest) M Q := by
  subst hx
  intro p l e R s m args below meth c G A cells slots Z cx hr H locs ls hP hS hl
  exact lv_tableIn cx.1 cx.2.1 hd h1 h2 ho ht (k p l e R s m args below meth c G A cells slots Z cx hr H locs ls hP hS hl)
theorem GW.tswOut {xs : gX} {d : Nat} {md : gM} {pc : Nat} {lv : List (Nat × Value)} {rest : List Value} {M : Mem} {Q : Option Value → Mem → Prop} {dflt lo hi : Int} {offs : Array Int} {len : Nat} {x : Int32} {tgt : Nat} (hd : decode md.2.1 pc = .ok (.tableswitch dflt lo hi offs, len)) (h : x.toInt < lo ∨ hi < x.toInt) (ht : (pc : Int) + dflt = (tgt : Int)) (k : GW xs d md tgt lv rest M Q) : GW xs d md pc lv (.int x :: rest) M Q := by
  intro p l e R s m args below meth c G A cells slots Z cx hr H locs ls hP hS hl
  exact lv_tableOut cx.1 cx.2.1 hd h ht (k p l e R s m args below meth c G A cells slots Z cx hr H locs ls hP hS hl)
theorem GW.lsw {xs : gX} {d : Nat} {md : gM} {pc : Nat} {lv : List (Nat × Value)} {rest : List Value} {M : Mem} {Q : Option Value → Mem → Prop} {dflt : Int} {ps : Array (Int × Int)} {len : Nat} {x : Int32} {off : Int} {tgt : Nat} (hd : decode md.2.1 pc = .ok (.lookupswitch dflt ps, len)) (hp : (ps.toList.zip (ps.toList.drop 1)).all (fun (a, next) => a.1 < next.1) = true) (ho : Op.lookupswitch.offset ps.toList dflt x.toInt = off) (ht : (pc : Int) + off = (tgt : Int)) (k : GW xs d md tgt lv rest M Q) : GW xs d md pc lv (.int x :: rest) M Q := by
  intro p l e R s m args below meth c G A cells slots Z cx hr H locs ls hP hS hl
  exact lv_lookup cx.1 cx.2.1 hd hp ho ht (k p l e R s m args below meth c G A cells slots Z cx hr H locs ls hP hS hl)
/-- a field, by the entry that names it in the class that reads it -/
def FOK (own : String) (idx ci j : Nat) : Prop := ∃ (C : String) (T : u_T) (N : Nat), vwCl[ci]? = some (C, T, N) ∧ j < N ∧ (∀ w ∈ u_ws C T N, w ∈ tblG) ∧
  (Cond.fieldLink own idx (T j).1 (T j).2.1 (T j).2.2.1 ∈ tblG ∨ ∃ host, Cond.fieldLinkNest own idx (T j).1 (T j).2.1 (T j).2.2.1 host ∈ nstG)
/-- a field that is written: an int or a boolean, or the one text -/
def FPK (own : String) (idx ci j : Nat) (ty : FieldType) : Prop := ∃ (C : String) (T : u_T) (N : Nat) (ty0 : Nat → FieldType), vwCl[ci]? = some (C, T, N) ∧ j < N ∧ (∀ w ∈ u_ws C T N, w ∈ tblG) ∧
  (Cond.fieldLink own idx (T j).1 (T j).2.1 (T j).2.2.1 ∈ tblG ∨ ∃ host, Cond.fieldLinkNest own idx (T j).1 (T j).2.1 (T j).2.2.1 host ∈ nstG) ∧
  (∀ k, k < N → parseFieldDescriptor (T k).2.2.1 = some (ty0 k)) ∧ (∀ a, a < N → ∀ b, b < N → a ≠ b → (T a).2.1 ≠ (T b).2.1) ∧ (T j).2.2.2 = false ∧ parseFieldDescriptor (T j).2.2.1 = some ty
theorem GW.getI {xs : gX} {d : Nat} {md : gM} {pc pc' : Nat} {lv : List (Nat × Value)} {rest : List Value} {M : Mem} {Q : Option Value → Mem → Prop} {index ci j N k : Nat} (hd : decode md.2.1 pc = .ok (.getfield index, 3)) (hp : pc + 3 = pc') (hF : FOK md.1.cls index ci j) (hg : gk k = (0, ci, N)) (hj : j < N) (hs : gs k j = false) (hn : gr k j = none) (k' : GW xs d md pc' lv (.int (M.1 k j) :: rest) M Q) : GW xs d md pc lv (.ref k :: rest) M Q := by
  subst hp
  intro p l e R s m args below meth c G A cells slots Z cx hr H locs ls hP hS hl
  obtain ⟨C, T, N', hc, hjN, hin, hlink⟩ := hF
  have hlt := gk_lt' hg (by decide)
  have he := ws_at G M hlt
  rw [ent_obj G M hg] at he
  have hv := fv_at (G := G) (M := M) (k := k) hj
  rw [show fvV G M k j = .int (M.1 k j) by simp only [fvV, hs, hn]] at hv
  have kk := k' p l e R s m args below meth c G A cells slots Z cx hr H locs ls hP hS hl
  rcases hlink with h | ⟨host, h⟩
  · exact va_get (D := G.1) (ci := ci) cx.1 cx.2.1 cx.2.2.2.2.1 hin cx.2.2.2.1 cx.2.2.2.2.2.2.2.1 hP.1 k he hc j hjN (cx.2.2.2.2.1 _ h) (fun _ q => q) hv hd kk
  · exact va_getN (D := G.1) (ci := ci) cx.1 cx.2.1 cx.2.2.2.2.1 hin cx.2.2.2.1 cx.2.2.2.2.2.2.2.1 hP.1 k he hc j hjN (va_Nw.use rfl (cx.2.2.2.2.2.1 _ h)) (fun _ q => q) hv hd kk
theorem GW.getR {xs : gX} {d : Nat} {md : gM} {pc pc' : Nat} {lv : List (Nat × Value)} {rest : List Value} {M : Mem} {Q : Option Value → Mem → Prop} {index ci j N k : Nat} {t : Nat} (hd : decode md.2.1 pc = .ok (.getfield index, 3)) (hp : pc + 3 = pc') (hF : FOK md.1.cls index ci j) (hg : gk k = (0, ci, N)) (hj : j < N) (hs : gs k j = false) (hn : gr k j = some t) (k' : GW xs d md pc' lv (.ref t :: rest) M Q) : GW xs d md pc lv (.ref k :: rest) M Q := by
  subst hp
  intro p l e R s m args below meth c G A cells slots Z cx hr H locs ls hP hS hl
  obtain ⟨C, T, N', hc, hjN, hin, hlink⟩ := hF
  have hlt := gk_lt' hg (by decide)
  have he := ws_at G M hlt
  rw [ent_obj G M hg] at he
  have hv := fv_at (G := G) (M := M) (k := k) hj
  rw [show fvV G M k j = .ref (G.2.1 t) by simp only [fvV, hs, hn]] at hv
  have kk := k' p l e R s m args below meth c G A cells slots Z cx hr H locs ls hP hS hl
  rcases hlink with h | ⟨host, h⟩
  · exact va_get (D := G.1) (ci := ci) cx.1 cx.2.1 cx.2.2.2.2.1 hin cx.2.2.2.1 cx.2.2.2.2.2.2.2.1 hP.1 k he hc j hjN (cx.2.2.2.2.1 _ h) (fun _ q => q) hv hd kk
  · exact va_getN (D := G.1) (ci := ci) cx.1 cx.2.1 cx.2.2.2.2.1 hin cx.2.2.2.1 cx.2.2.2.2.2.2.2.1 hP.1 k he hc j hjN (va_Nw.use rfl (cx.2.2.2.2.2.1 _ h)) (fun _ q => q) hv hd kk
theorem GW.getS {xs : gX} {d : Nat} {md : gM} {pc pc' : Nat} {lv : List (Nat × Value)} {rest : List Value} {M : Mem} {Q : Option Value → Mem → Prop} {index ci j N k : Nat} (hd : decode md.2.1 pc = .ok (.getfield index, 3)) (hp : pc + 3 = pc') (hF : FOK md.1.cls index ci j) (hg : gk k = (0, ci, N)) (hj : j < N) (hs : gs k j = true) (k' : GW xs d md pc' lv (.ref (strK (M.1 k j)) :: rest) M Q) : GW xs d md pc lv (.ref k :: rest) M Q := by
  subst hp
  intro p l e R s m args below meth c G A cells slots Z cx hr H locs ls hP hS hl
  obtain ⟨C, T, N', hc, hjN, hin, hlink⟩ := hF
  have hlt := gk_lt' hg (by decide)
  have he := ws_at G M hlt
  rw [ent_obj G M hg] at he
  have hv := fv_at (G := G) (M := M) (k := k) hj
  rw [show fvV G M k j = .ref (G.2.1 (strK (M.1 k j))) by simp only [fvV, hs]] at hv
  have kk := k' p l e R s m args below meth c G A cells slots Z cx hr H locs ls hP hS hl
  rcases hlink with h | ⟨host, h⟩
  · exact va_get (D := G.1) (ci := ci) cx.1 cx.2.1 cx.2.2.2.2.1 hin cx.2.2.2.1 cx.2.2.2.2.2.2.2.1 hP.1 k he hc j hjN (cx.2.2.2.2.1 _ h) (fun _ q => q) hv hd kk
  · exact va_getN (D := G.1) (ci := ci) cx.1 cx.2.1 cx.2.2.2.2.1 hin cx.2.2.2.1 cx.2.2.2.2.2.2.2.1 hP.1 k he hc j hjN (va_Nw.use rfl (cx.2.2.2.2.2.1 _ h)) (fun _ q => q) hv hd kk
theorem GW.putI {xs : gX} {d : Nat} {md : gM} {pc pc' : Nat} {lv : List (Nat × Value)} {rest : List Value} {M : Mem} {Q : Option Value → Mem → Prop} {index ci j N k : Nat} {ty : FieldType} {x : Int32} (hd : decode md.2.1 pc = .ok (.putfield index, 3)) (hp : pc + 3 = pc') (hF : FPK md.1.cls index ci j ty) (hg : gk k = (0, ci, N)) (hj : j < N) (hs : gs k j = false) (hn : gr k j = none) (hnar : narrow ty (.int x) = .int x ∧ fits ty (.int x) = true) (k' : GW xs d md pc' lv rest (mw M k j x) Q) : GW xs d md pc lv (.int x :: .ref k :: rest) M Q := by
  subst hp
  intro p l e R s m args below meth c G A cells slots Z cx hr H locs ls hP hS hl
  obtain ⟨C, T, N', ty0, hc, hjN, hin, hlink, hty, hnm, hfin, hpd⟩ := hF
  have hlt := gk_lt' hg (by decide)
  have he := ws_at G M hlt
  rw [ent_obj G M hg] at he
  have hlen : j < ((List.range N).map (fun j => fvV G M k j)).length := by rw [List.length_map, List.length_range]; exact hj
  have e1 : (mw M k j x).1 k j = x := by
    show (mwA M k (upd (M.1 k) j x)).1 k j = x
    rw [mwA_at]; exact if_pos rfl
  have hset : (wsG G M).set k (G.2.1 k, .inr (ci, ((List.range N).map (fun j => fvV G M k j)).set j (.int x))) = wsG G (mw M k j x) :=
    ws_set hlt (by rw [ent_obj G _ hg, fv_set (x := x) hj (by simp only [fvV, hs, hn, e1])]) (fun b hb => ent_mwA_ne G M _ hb)
  have kk : ∀ (H1 : Heap) (locs1 : List Loc), va_P G.1 vwCl (wsG G (mw M k j x)) H1 → va_D A (wsG G (mw M k j x)) → va_S A s.heap H1 locs1 → W p l e R s m args below meth c H1 locs1 cells slots Z (F0 m (pc + 3) ls (rest.map (cvV G))) :=
    fun H1 locs1 h1 h2 h3 => k' p l e R s m args below meth c G A cells slots Z cx hr H1 locs1 ls ⟨h1, h2⟩ h3 hl
  rw [← hset] at kk
  rcases hlink with h | ⟨host, h⟩
  · exact va_put (D := G.1) (ci := ci) cx.1 cx.2.1 cx.2.2.2.2.1 hin ty0 hty hnm cx.2.2.2.1 cx.2.2.2.2.2.2.2.1 hP.1 hP.2 hS k he hc j hjN (cx.2.2.2.2.1 _ h) (fun _ q => q) hfin hpd hnar.1 hnar.2 hlen hd kk
  · exact va_putN (D := G.1) (ci := ci) cx.1 cx.2.1 cx.2.2.2.2.1 hin ty0 hty hnm cx.2.2.2.1 cx.2.2.2.2.2.2.2.1 hP.1 hP.2 hS k he hc j hjN (va_Nw.use rfl (cx.2.2.2.2.2.1 _ h)) (fun _ q => q) hfin hpd hnar.1 hnar.2 hlen hd kk
theorem GW.putS {xs : gX} {d : Nat} {md : gM} {pc pc' : Nat} {lv : List (Nat × Value)} {rest : List Value} {M : Mem} {Q : Option Value → Mem → Prop} {index ci j N k : Nat} {ty : FieldType} {x : Int32} (hd : decode md.2.1 pc = .ok (.putfield index, 3)) (hp : pc + 3 = pc') (hF : FPK md.1.cls index ci j ty) (hg : gk k = (0, ci, N)) (hj : j < N) (hs : gs k j = true) (hty1 : ty = .object "java/lang/String") (k' : GW xs d md pc' lv rest (mw M k j x) Q) : GW xs d md pc lv (.ref (strK x) :: .ref k :: rest) M Q := by
  subst hp
  intro p l e R s m args below meth c G A cells slots Z cx hr H locs ls hP hS hl
  obtain ⟨C, T, N', ty0, hc, hjN, hin, hlink, hty, hnm, hfin, hpd⟩ := hF
  have hlt := gk_lt' hg (by decide)
  have he := ws_at G M hlt
  rw [ent_obj G M hg] at he
  have hlen : j < ((List.range N).map (fun j => fvV G M k j)).length := by rw [List.length_map, List.length_range]; exact hj
  have e1 : (mw M k j x).1 k j = x := by
    show (mwA M k (upd (M.1 k) j x)).1 k j = x
    rw [mwA_at]; exact if_pos rfl
  have hset : (wsG G M).set k (G.2.1 k, .inr (ci, ((List.range N).map (fun j => fvV G M k j)).set j (.ref (G.2.1 (strK x))))) = wsG G (mw M k j x) :=
    ws_set hlt (by rw [ent_obj G _ hg, fv_set (x := x) hj (by simp only [fvV, hs, e1])]) (fun b hb => ent_mwA_ne G M _ hb)
  have kk : ∀ (H1 : Heap) (locs1 : List Loc), va_P G.1 vwCl (wsG G (mw M k j x)) H1 → va_D A (wsG G (mw M k j x)) → va_S A s.heap H1 locs1 → W p l e R s m args below meth c H1 locs1 cells slots Z (F0 m (pc + 3) ls (rest.map (cvV G))) :=
    fun H1 locs1 h1 h2 h3 => k' p l e R s m args below meth c G A cells slots Z cx hr H1 locs1 ls ⟨h1, h2⟩ h3 hl
  rw [← hset] at kk
  rcases hlink with h | ⟨host, h⟩
  · exact va_put (D := G.1) (ci := ci) cx.1 cx.2.1 cx.2.2.2.2.1 hin ty0 hty hnm cx.2.2.2.1 cx.2.2.2.2.2.2.2.1 hP.1 hP.2 hS k he hc j hjN (cx.2.2.2.2.1 _ h) (fun _ q => q) hfin hpd (by rw [hty1]; rfl) (by rw [hty1]; rfl) hlen hd kk
  · exact va_putN (D := G.1) (ci := ci) cx.1 cx.2.1 cx.2.2.2.2.1 hin ty0 hty hnm cx.2.2.2.1 cx.2.2.2.2.2.2.2.1 hP.1 hP.2 hS k he hc j hjN (va_Nw.use rfl (cx.2.2.2.2.2.1 _ h)) (fun _ q => q) hfin hpd (by rw [hty1]; rfl) (by rw [hty1]; rfl) hlen hd kk
theorem GW.iaload {xs : gX} {d : Nat} {md : gM} {pc pc' : Nat} {lv : List (Nat × Value)} {rest : List Value} {M : Mem} {Q : Option Value → Mem → Prop} {n z k j : Nat} {i : Int32} (hd : decode md.2.1 pc = .ok (.iaload, 1)) (hp : pc + 1 = pc') (hg : gk k = (1, n, z)) (hin : vp_in i n) (hj : i.toNatClampNeg = j) (k' : GW xs d md pc' lv (.int (M.1 k j) :: rest) M Q) : GW xs d md pc lv (.int i :: .ref k :: rest) M Q := by
  subst hp hj
  intro p l e R s m args below meth c G A cells slots Z cx hr H locs ls hP hS hl
  have he := ws_at G M (gk_lt' hg (by decide))
  rw [ent_int G M hg] at he
  exact va_iald cx.1 cx.2.1 cx.2.2.2.2.2.2.2.1 hP.1 k 0 he rfl hin hd (k' p l e R s m args below meth c G A cells slots Z cx hr H locs ls hP hS hl)
theorem GW.laload {xs : gX} {d : Nat} {md : gM} {pc pc' : Nat} {lv : List (Nat × Value)} {rest : List Value} {M : Mem} {Q : Option Value → Mem → Prop} {n z k j : Nat} {i : Int32} (hd : decode md.2.1 pc = .ok (.laload, 1)) (hp : pc + 1 = pc') (hg : gk k = (2, n, z)) (hin : vp_in i n) (hj : i.toNatClampNeg = j) (k' : GW xs d md pc' lv (.long (M.2 k j) :: rest) M Q) : GW xs d md pc lv (.int i :: .ref k :: rest) M Q := by
  subst hp hj
  intro p l e R s m args below meth c G A cells slots Z cx hr H locs ls hP hS hl
  have he := ws_at G M (gk_lt' hg (by decide))
  rw [ent_long G M hg] at he
  exact va_lald cx.1 cx.2.1 cx.2.2.2.2.2.2.2.1 hP.1 k 1 he rfl hin hd (k' p l e R s m args below meth c G A cells slots Z cx hr H locs ls hP hS hl)
theorem GW.aaload {xs : gX} {d : Nat} {md : gM} {pc pc' : Nat} {lv : List (Nat × Value)} {rest : List Value} {M : Mem} {Q : Option Value → Mem → Prop} {n z k t : Nat} {i : Int32} (hd : decode md.2.1 pc = .ok (.aaload, 1)) (hp : pc + 1 = pc') (hg : gk k = (3, n, z)) (hin : vp_in i n) (ht : gr k i.toNatClampNeg = some t) (k' : GW xs d md pc' lv (.ref t :: rest) M Q) : GW xs d md pc lv (.int i :: .ref k :: rest) M Q := by
  subst hp
  intro p l e R s m args below meth c G A cells slots Z cx hr H locs ls hP hS hl
  have he := ws_at G M (gk_lt' hg (by decide))
  rw [ent_ref G M hg] at he
  refine va_aldq cx.1 cx.2.1 cx.2.2.2.2.2.2.2.1 hP.1 k 2 he rfl hin hd ?_
  rw [ht]
  exact k' p l e R s m args below meth c G A cells slots Z cx hr H locs ls hP hS hl
theorem GW.iastore {xs : gX} {d : Nat} {md : gM} {pc pc' : Nat} {lv : List (Nat × Value)} {rest : List Value} {M : Mem} {Q : Option Value → Mem → Prop} {n z k j : Nat} {i x : Int32} (hd : decode md.2.1 pc = .ok (.iastore, 1)) (hp : pc + 1 = pc') (hg : gk k = (1, n, z)) (hin : vp_in i n) (hj : i.toNatClampNeg = j) (k' : GW xs d md pc' lv rest (mw M k j x) Q) : GW xs d md pc lv (.int x :: .int i :: .ref k :: rest) M Q := by
  subst hp hj
  intro p l e R s m args below meth c G A cells slots Z cx hr H locs ls hP hS hl
  have hlt := gk_lt' hg (by decide)
  have he := ws_at G M hlt
  rw [ent_int G M hg] at he
  refine va_iast cx.1 cx.2.1 cx.2.2.2.2.2.2.2.1 hP.1 hP.2 hS k 0 he rfl hin hd (fun H1 locs1 h1 h2 h3 => ?_)
  have hset := ws_set (G := G) (M := M) (M1 := mw M k i.toNatClampNeg x) (e := .inl (G.2.2 0, n, .inl (upd (M.1 k) i.toNatClampNeg x))) hlt (by rw [ent_int G _ hg]; show _ = Sum.inl (G.2.2 0, n, Sum.inl ((mwA M k _).1 k)); rw [mwA_at]) (fun b hb => ent_mwA_ne G M _ hb)
  rw [hset] at h1 h2
  exact k' p l e R s m args below meth c G A cells slots Z cx hr H1 locs1 ls ⟨h1, h2⟩ h3 hl
theorem GW.lastore {xs : gX} {d : Nat} {md : gM} {pc pc' : Nat} {lv : List (Nat × Value)} {rest : List Value} {M : Mem} {Q : Option Value → Mem → Prop} {n z k j : Nat} {i : Int32} {x : Int64} (hd : decode md.2.1 pc = .ok (.lastore, 1)) (hp : pc + 1 = pc') (hg : gk k = (2, n, z)) (hin : vp_in i n) (hj : i.toNatClampNeg = j) (k' : GW xs d md pc' lv rest (ml M k j x) Q) : GW xs d md pc lv (.long x :: .int i :: .ref k :: rest) M Q := by
  subst hp hj
  intro p l e R s m args below meth c G A cells slots Z cx hr H locs ls hP hS hl
  have hlt := gk_lt' hg (by decide)
  have he := ws_at G M hlt
  rw [ent_long G M hg] at he
  refine va_last cx.1 cx.2.1 cx.2.2.2.2.2.2.2.1 hP.1 hP.2 hS k 1 he rfl hin hd (fun H1 locs1 h1 h2 h3 => ?_)
  have hset := ws_set (G := G) (M := M) (M1 := ml M k i.toNatClampNeg x) (e := .inl (G.2.2 1, n, .inr (.inl (vp_updL (M.2 k) i.toNatClampNeg x)))) hlt (by rw [ent_long G _ hg]; show _ = Sum.inl (G.2.2 1, n, Sum.inr (Sum.inl ((mlA M k _).2 k))); rw [mlA_at]) (fun b hb => ent_mlA_ne G M _ hb)
  rw [hset] at h1 h2
  exact k' p l e R s m args below meth c G A cells slots Z cx hr H1 locs1 ls ⟨h1, h2⟩ h3 hl
theorem GW.alen {xs : gX} {d : Nat} {md : gM} {pc pc' : Nat} {lv : List (Nat × Value)} {rest : List Value} {M : Mem} {Q : Option Value → Mem → Prop} {n z k : Nat} {v : Int32} (hd : decode md.2.1 pc = .ok (.arraylength, 1)) (hp : pc + 1 = pc') (hg : gk k = (1, n, z)) (hv : Int32.ofNat n = v) (k' : GW xs d md pc' lv (.int v :: rest) M Q) : GW xs d md pc lv (.ref k :: rest) M Q := by
  subst hp
  intro p l e R s m args below meth c G A cells slots Z cx hr H locs ls hP hS hl
  have he := ws_at G M (gk_lt' hg (by decide))
  rw [ent_int G M hg] at he
  exact va_alen cx.1 cx.2.1 cx.2.2.2.2.2.2.2.1 hP.1 k 0 he rfl hv hd (k' p l e R s m args below meth c G A cells slots Z cx hr H locs ls hP hS hl)
theorem GW.sload {xs : gX} {d : Nat} {md : gM} {pc pc' : Nat} {lv : List (Nat × Value)} {rest : List Value} {M : Mem} {Q : Option Value → Mem → Prop} {i : Int32} (hd : decode md.2.1 pc = .ok (.iaload, 1)) (hp : pc + 1 = pc') (hin : vp_in i xs.1) (k' : GW xs d md pc' lv (.int (xs.2 i.toNatClampNeg) :: rest) M Q) : GW xs d md pc lv (.int i :: .ref 3000 :: rest) M Q := by
  subst hp
  intro p l e R s m args below meth c G A cells slots Z cx hr H locs ls hP hS hl
  obtain ⟨-, -, -, -, -, -, -, hX, hA⟩ := cx.2.2.2.2.2.2.2.2.1
  obtain ⟨scr, g1, g2⟩ := id hX
  exact va_sld cx.1 cx.2.1 hX (Array.getElem?_eq_some_iff.mp g1).1 hA hS hin hd (k' p l e R s m args below meth c G A cells slots Z cx hr H locs ls hP hS hl)
theorem GW.slen {xs : gX} {d : Nat} {md : gM} {pc pc' : Nat} {lv : List (Nat × Value)} {rest : List Value} {M : Mem} {Q : Option Value → Mem → Prop} (hd : decode md.2.1 pc = .ok (.arraylength, 1)) (hp : pc + 1 = pc') (k' : GW xs d md pc' lv (.int (Int32.ofNat xs.1) :: rest) M Q) : GW xs d md pc lv (.ref 3000 :: rest) M Q := by
  subst hp
  intro p l e R s m args below meth c G A cells slots Z cx hr H locs ls hP hS hl
  obtain ⟨-, -, -, -, -, -, -, hX, hA⟩ := cx.2.2.2.2.2.2.2.2.1
  obtain ⟨scr, g1, g2⟩ := id hX
  exact va_slen cx.1 cx.2.1 hX (Array.getElem?_eq_some_iff.mp g1).1 hA hS hd (k' p l e R s m args below meth c G A cells slots Z cx hr H locs ls hP hS hl)
theorem GW.tload {xs : gX} {d : Nat} {md : gM} {pc pc' : Nat} {lv : List (Nat × Value)} {rest : List Value} {M : Mem} {Q : Option Value → Mem → Prop} {k n : Nat} {i v : Int32} (hd : decode md.2.1 pc = .ok (.iaload, 1)) (hp : pc + 1 = pc') (hk : (k = 2000 ∧ n = 7) ∨ (k = 2001 ∧ n = 28)) (hin : vp_in i n) (hv : tbF k i.toNatClampNeg = v) (k' : GW xs d md pc' lv (.int v :: rest) M Q) : GW xs d md pc lv (.int i :: .ref k :: rest) M Q := by
  subst hp hv
  intro p l e R s m args below meth c G A cells slots Z cx hr H locs ls hP hS hl
  obtain ⟨-, hT1, -, hT2, -⟩ := cx.2.2.2.2.2.2.2.2.1
  rcases hk with ⟨rfl, rfl⟩ | ⟨rfl, rfl⟩
  · exact va_ti cx.1 cx.2.1 hT1 hS hin rfl hd (k' p l e R s m args below meth c G A cells slots Z cx hr H locs ls hP hS hl)
  · exact va_ti cx.1 cx.2.1 hT2 hS hin rfl hd (k' p l e R s m args below meth c G A cells slots Z cx hr H locs ls hP hS hl)
/-- a static table, by the entry that names it -/
theorem GW.gets {xs : gX} {d : Nat} {md : gM} {pc pc' : Nat} {lv : List (Nat × Value)} {rest : List Value} {M : Mem} {Q : Option Value → Mem → Prop} {k index : Nat} {nm : String} (hd : decode md.2.1 pc = .ok (.getstatic index, 3)) (hp : pc + 3 = pc') (hk : (k = 2000 ∧ nm = "ABOVE") ∨ (k = 2001 ∧ nm = "BODIES")) (hF : Cond.fieldLink md.1.cls index "SoldYear" nm "[I" ∈ tblG ∨ ∃ host, Cond.fieldLinkNest md.1.cls index "SoldYear" nm "[I" host ∈ nstG) (k' : GW xs d md pc' lv (.ref k :: rest) M Q) : GW xs d md pc lv rest M Q := by
  subst hp
  intro p l e R s m args below meth c G A cells slots Z cx hr H locs ls hP hS hl
  obtain ⟨hZ1, -, hZ2, -, -⟩ := cx.2.2.2.2.2.2.2.2.1
  have kk := k' p l e R s m args below meth c G A cells slots Z cx hr H locs ls hP hS hl
  rcases hk with ⟨rfl, rfl⟩ | ⟨rfl, rfl⟩ <;> rcases hF with h | ⟨host, h⟩
  · exact va_gets cx.1 cx.2.1 hZ1 hS cx.2.2.2.1 (cx.2.2.2.2.1 _ h) (fun _ q => q) hd kk
  · exact va_getsN cx.1 cx.2.1 hZ1 hS cx.2.2.2.1 (va_Nw.use rfl (cx.2.2.2.2.2.1 _ h)) (fun _ q => q) hd kk
  · exact va_gets cx.1 cx.2.1 hZ2 hS cx.2.2.2.1 (cx.2.2.2.2.1 _ h) (fun _ q => q) hd kk
  · exact va_getsN cx.1 cx.2.1 hZ2 hS cx.2.2.2.1 (va_Nw.use rfl (cx.2.2.2.2.2.1 _ h)) (fun _ q => q) hd kk
theorem GW.iret {xs : gX} {d : Nat} {md : gM} {pc : Nat} {lv : List (Nat × Value)} {M : Mem} {Q : Option Value → Mem → Prop} {x : Int32} (hd : decode md.2.1 pc = .ok (.ireturn, 1)) (ht : md.2.2.2 = some .int) (h : Q (some (.int x)) M) : GW xs d md pc lv [.int x] M Q := by
  intro p l e R s m args below meth c G A cells slots Z cx hr H locs ls hP hS hl
  exact hr (some (.int x)) M H locs pc ls _ h hP hS (by rw [cx.2.1]; exact hd) (.inl ⟨.int, x, ht, rfl, rfl, rfl⟩)
theorem GW.zret {xs : gX} {d : Nat} {md : gM} {pc : Nat} {lv : List (Nat × Value)} {M : Mem} {Q : Option Value → Mem → Prop} {x : Int32} (hd : decode md.2.1 pc = .ok (.ireturn, 1)) (ht : md.2.2.2 = some .boolean) (hx : x = 0 ∨ x = 1) (h : Q (some (.int x)) M) : GW xs d md pc lv [.int x] M Q := by
  intro p l e R s m args below meth c G A cells slots Z cx hr H locs ls hP hS hl
  exact hr (some (.int x)) M H locs pc ls _ h hP hS (by rw [cx.2.1]; exact hd) (.inl ⟨.boolean, x, ht, rfl, by rcases hx with rfl | rfl <;> rfl, rfl⟩)
theorem GW.nret {xs : gX} {d : Nat} {md : gM} {pc : Nat} {lv : List (Nat × Value)} {M : Mem} {Q : Option Value → Mem → Prop} {x : Int32} {ty : FieldType} (hd : decode md.2.1 pc = .ok (.ireturn, 1)) (ht : md.2.2.2 = some ty) (hx : narrow ty (.int x) = .int x) (h : Q (some (.int x)) M) : GW xs d md pc lv [.int x] M Q := by
  intro p l e R s m args below meth c G A cells slots Z cx hr H locs ls hP hS hl
  exact hr (some (.int x)) M H locs pc ls _ h hP hS (by rw [cx.2.1]; exact hd) (.inl ⟨ty, x, ht, rfl, hx, rfl⟩)
theorem GW.lret {xs : gX} {d : Nat} {md : gM} {pc : Nat} {lv : List (Nat × Value)} {M : Mem} {Q : Option Value → Mem → Prop} {x : Int64} (hd : decode md.2.1 pc = .ok (.lreturn, 1)) (ht : md.2.2.2 = some .long) (h : Q (some (.long x)) M) : GW xs d md pc lv [.long x] M Q := by
  intro p l e R s m args below meth c G A cells slots Z cx hr H locs ls hP hS hl
  exact hr (some (.long x)) M H locs pc ls _ h hP hS (by rw [cx.2.1]; exact hd) (.inr (.inl ⟨ht, ⟨x, rfl⟩, rfl⟩))
theorem GW.vret {xs : gX} {d : Nat} {md : gM} {pc : Nat} {lv : List (Nat × Value)} {M : Mem} {Q : Option Value → Mem → Prop}  (hd : decode md.2.1 pc = .ok (.return_, 1)) (ht : md.2.2.2 = none) (h : Q none M) : GW xs d md pc lv [] M Q := by
  intro p l e R s m args below meth c G A cells slots Z cx hr H locs ls hP hS hl
  exact hr none M H locs pc ls _ h hP hS (by rw [cx.2.1]; exact hd) (.inr (.inr (.inl ⟨ht, rfl, rfl⟩)))
theorem GW.aret {xs : gX} {d : Nat} {md : gM} {pc : Nat} {lv : List (Nat × Value)} {M : Mem} {Q : Option Value → Mem → Prop} {k : Nat} {n : String} (hd : decode md.2.1 pc = .ok (.areturn, 1)) (ht : md.2.2.2 = some (.object n)) (h : Q (some (.ref k)) M) : GW xs d md pc lv [.ref k] M Q := by
  intro p l e R s m args below meth c G A cells slots Z cx hr H locs ls hP hS hl
  exact hr (some (.ref k)) M H locs pc ls _ h hP hS (by rw [cx.2.1]; exact hd) (.inr (.inr (.inr ⟨⟨n, ht⟩, ⟨k, rfl⟩, rfl⟩)))
