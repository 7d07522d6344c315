section
variable {X : CX} {cc : ByteArray} {nL pc : Nat} {own : String} {ret : Option FieldType} {lv : List (Nat × TV)} {st : List TV} {cells slots : Nat} {μ : Mem}

theorem wm_iadd (E : EV X cc nL own ret) {x y : Int32} (hdg : decode cc pc = .ok (.iadd, 1))
    (k : WM X nL (pc + 1) lv ((vI (x + y)) :: st) cells slots μ) : WM X nL pc lv ((vI y) :: (vI x) :: st) cells slots μ := by
  obtain ⟨G, ed, lo, p, l, e, R, s, m, args, below, meth, c, Q⟩ := X
  obtain ⟨hx, hb, hml, hown, hts, hN, hK, hO, hlo, hlk, hret⟩ := E
  exact fun H locs ls hw hl => lv_iadd hx hb hdg (k H locs ls hw hl)

theorem wm_isub (E : EV X cc nL own ret) {x y : Int32} (hdg : decode cc pc = .ok (.isub, 1))
    (k : WM X nL (pc + 1) lv ((vI (x - y)) :: st) cells slots μ) : WM X nL pc lv ((vI y) :: (vI x) :: st) cells slots μ := by
  obtain ⟨G, ed, lo, p, l, e, R, s, m, args, below, meth, c, Q⟩ := X
  obtain ⟨hx, hb, hml, hown, hts, hN, hK, hO, hlo, hlk, hret⟩ := E
  exact fun H locs ls hw hl => lv_isub hx hb hdg (k H locs ls hw hl)

theorem wm_imul (E : EV X cc nL own ret) {x y : Int32} (hdg : decode cc pc = .ok (.imul, 1))
    (k : WM X nL (pc + 1) lv ((vI (x * y)) :: st) cells slots μ) : WM X nL pc lv ((vI y) :: (vI x) :: st) cells slots μ := by
  obtain ⟨G, ed, lo, p, l, e, R, s, m, args, below, meth, c, Q⟩ := X
  obtain ⟨hx, hb, hml, hown, hts, hN, hK, hO, hlo, hlk, hret⟩ := E
  exact fun H locs ls hw hl => lv_imul hx hb hdg (k H locs ls hw hl)

theorem wm_iand (E : EV X cc nL own ret) {x y : Int32} (hdg : decode cc pc = .ok (.iand, 1))
    (k : WM X nL (pc + 1) lv ((vI (x &&& y)) :: st) cells slots μ) : WM X nL pc lv ((vI y) :: (vI x) :: st) cells slots μ := by
  obtain ⟨G, ed, lo, p, l, e, R, s, m, args, below, meth, c, Q⟩ := X
  obtain ⟨hx, hb, hml, hown, hts, hN, hK, hO, hlo, hlk, hret⟩ := E
  exact fun H locs ls hw hl => lv_iand hx hb hdg (k H locs ls hw hl)

theorem wm_ior (E : EV X cc nL own ret) {x y : Int32} (hdg : decode cc pc = .ok (.ior, 1))
    (k : WM X nL (pc + 1) lv ((vI (x ||| y)) :: st) cells slots μ) : WM X nL pc lv ((vI y) :: (vI x) :: st) cells slots μ := by
  obtain ⟨G, ed, lo, p, l, e, R, s, m, args, below, meth, c, Q⟩ := X
  obtain ⟨hx, hb, hml, hown, hts, hN, hK, hO, hlo, hlk, hret⟩ := E
  exact fun H locs ls hw hl => lv_ior hx hb hdg (k H locs ls hw hl)

theorem wm_ixor (E : EV X cc nL own ret) {x y : Int32} (hdg : decode cc pc = .ok (.ixor, 1))
    (k : WM X nL (pc + 1) lv ((vI (x ^^^ y)) :: st) cells slots μ) : WM X nL pc lv ((vI y) :: (vI x) :: st) cells slots μ := by
  obtain ⟨G, ed, lo, p, l, e, R, s, m, args, below, meth, c, Q⟩ := X
  obtain ⟨hx, hb, hml, hown, hts, hN, hK, hO, hlo, hlk, hret⟩ := E
  exact fun H locs ls hw hl => lv_ixor hx hb hdg (k H locs ls hw hl)

theorem wm_ladd (E : EV X cc nL own ret) {x y : Int64} (hdg : decode cc pc = .ok (.ladd, 1))
    (k : WM X nL (pc + 1) lv ((vL (x + y)) :: st) cells slots μ) : WM X nL pc lv ((vL y) :: (vL x) :: st) cells slots μ := by
  obtain ⟨G, ed, lo, p, l, e, R, s, m, args, below, meth, c, Q⟩ := X
  obtain ⟨hx, hb, hml, hown, hts, hN, hK, hO, hlo, hlk, hret⟩ := E
  exact fun H locs ls hw hl => lv_ladd hx hb hdg (k H locs ls hw hl)

theorem wm_lsub (E : EV X cc nL own ret) {x y : Int64} (hdg : decode cc pc = .ok (.lsub, 1))
    (k : WM X nL (pc + 1) lv ((vL (x - y)) :: st) cells slots μ) : WM X nL pc lv ((vL y) :: (vL x) :: st) cells slots μ := by
  obtain ⟨G, ed, lo, p, l, e, R, s, m, args, below, meth, c, Q⟩ := X
  obtain ⟨hx, hb, hml, hown, hts, hN, hK, hO, hlo, hlk, hret⟩ := E
  exact fun H locs ls hw hl => lv_lsub hx hb hdg (k H locs ls hw hl)

theorem wm_lmul (E : EV X cc nL own ret) {x y : Int64} (hdg : decode cc pc = .ok (.lmul, 1))
    (k : WM X nL (pc + 1) lv ((vL (x * y)) :: st) cells slots μ) : WM X nL pc lv ((vL y) :: (vL x) :: st) cells slots μ := by
  obtain ⟨G, ed, lo, p, l, e, R, s, m, args, below, meth, c, Q⟩ := X
  obtain ⟨hx, hb, hml, hown, hts, hN, hK, hO, hlo, hlk, hret⟩ := E
  exact fun H locs ls hw hl => lv_lmul hx hb hdg (k H locs ls hw hl)

theorem wm_land (E : EV X cc nL own ret) {x y : Int64} (hdg : decode cc pc = .ok (.land, 1))
    (k : WM X nL (pc + 1) lv ((vL (x &&& y)) :: st) cells slots μ) : WM X nL pc lv ((vL y) :: (vL x) :: st) cells slots μ := by
  obtain ⟨G, ed, lo, p, l, e, R, s, m, args, below, meth, c, Q⟩ := X
  obtain ⟨hx, hb, hml, hown, hts, hN, hK, hO, hlo, hlk, hret⟩ := E
  exact fun H locs ls hw hl => lv_land hx hb hdg (k H locs ls hw hl)

theorem wm_lor (E : EV X cc nL own ret) {x y : Int64} (hdg : decode cc pc = .ok (.lor, 1))
    (k : WM X nL (pc + 1) lv ((vL (x ||| y)) :: st) cells slots μ) : WM X nL pc lv ((vL y) :: (vL x) :: st) cells slots μ := by
  obtain ⟨G, ed, lo, p, l, e, R, s, m, args, below, meth, c, Q⟩ := X
  obtain ⟨hx, hb, hml, hown, hts, hN, hK, hO, hlo, hlk, hret⟩ := E
  exact fun H locs ls hw hl => lv_lor hx hb hdg (k H locs ls hw hl)

theorem wm_lxor (E : EV X cc nL own ret) {x y : Int64} (hdg : decode cc pc = .ok (.lxor, 1))
    (k : WM X nL (pc + 1) lv ((vL (x ^^^ y)) :: st) cells slots μ) : WM X nL pc lv ((vL y) :: (vL x) :: st) cells slots μ := by
  obtain ⟨G, ed, lo, p, l, e, R, s, m, args, below, meth, c, Q⟩ := X
  obtain ⟨hx, hb, hml, hown, hts, hN, hK, hO, hlo, hlk, hret⟩ := E
  exact fun H locs ls hw hl => lv_lxor hx hb hdg (k H locs ls hw hl)

theorem wm_idiv (E : EV X cc nL own ret) {x y : Int32} (hdg : decode cc pc = .ok (.idiv, 1)) (hne : ¬ y = 0)
    (k : WM X nL (pc + 1) lv ((vI (x / y)) :: st) cells slots μ) : WM X nL pc lv ((vI y) :: (vI x) :: st) cells slots μ := by
  obtain ⟨G, ed, lo, p, l, e, R, s, m, args, below, meth, c, Q⟩ := X
  obtain ⟨hx, hb, hml, hown, hts, hN, hK, hO, hlo, hlk, hret⟩ := E
  exact fun H locs ls hw hl => lv_idiv hx hb hdg hne (k H locs ls hw hl)

theorem wm_irem (E : EV X cc nL own ret) {x y : Int32} (hdg : decode cc pc = .ok (.irem, 1)) (hne : ¬ y = 0)
    (k : WM X nL (pc + 1) lv ((vI (x - x / y * y)) :: st) cells slots μ) : WM X nL pc lv ((vI y) :: (vI x) :: st) cells slots μ := by
  obtain ⟨G, ed, lo, p, l, e, R, s, m, args, below, meth, c, Q⟩ := X
  obtain ⟨hx, hb, hml, hown, hts, hN, hK, hO, hlo, hlk, hret⟩ := E
  exact fun H locs ls hw hl => lv_irem hx hb hdg hne (k H locs ls hw hl)

theorem wm_ldiv (E : EV X cc nL own ret) {x y : Int64} (hdg : decode cc pc = .ok (.ldiv, 1)) (hne : ¬ y = 0)
    (k : WM X nL (pc + 1) lv ((vL (x / y)) :: st) cells slots μ) : WM X nL pc lv ((vL y) :: (vL x) :: st) cells slots μ := by
  obtain ⟨G, ed, lo, p, l, e, R, s, m, args, below, meth, c, Q⟩ := X
  obtain ⟨hx, hb, hml, hown, hts, hN, hK, hO, hlo, hlk, hret⟩ := E
  exact fun H locs ls hw hl => lv_ldiv hx hb hdg hne (k H locs ls hw hl)

theorem wm_lrem (E : EV X cc nL own ret) {x y : Int64} (hdg : decode cc pc = .ok (.lrem, 1)) (hne : ¬ y = 0)
    (k : WM X nL (pc + 1) lv ((vL (x - x / y * y)) :: st) cells slots μ) : WM X nL pc lv ((vL y) :: (vL x) :: st) cells slots μ := by
  obtain ⟨G, ed, lo, p, l, e, R, s, m, args, below, meth, c, Q⟩ := X
  obtain ⟨hx, hb, hml, hown, hts, hN, hK, hO, hlo, hlk, hret⟩ := E
  exact fun H locs ls hw hl => lv_lrem hx hb hdg hne (k H locs ls hw hl)

theorem wm_ineg (E : EV X cc nL own ret) {x : Int32} (hdg : decode cc pc = .ok (.ineg, 1))
    (k : WM X nL (pc + 1) lv ((vI (-x)) :: st) cells slots μ) : WM X nL pc lv ((vI x) :: st) cells slots μ := by
  obtain ⟨G, ed, lo, p, l, e, R, s, m, args, below, meth, c, Q⟩ := X
  obtain ⟨hx, hb, hml, hown, hts, hN, hK, hO, hlo, hlk, hret⟩ := E
  exact fun H locs ls hw hl => lv_ineg hx hb hdg (k H locs ls hw hl)

theorem wm_ishl (E : EV X cc nL own ret) {x y : Int32} (hdg : decode cc pc = .ok (.ishl, 1))
    (k : WM X nL (pc + 1) lv ((vI (x <<< (y &&& 31))) :: st) cells slots μ) : WM X nL pc lv ((vI y) :: (vI x) :: st) cells slots μ := by
  obtain ⟨G, ed, lo, p, l, e, R, s, m, args, below, meth, c, Q⟩ := X
  obtain ⟨hx, hb, hml, hown, hts, hN, hK, hO, hlo, hlk, hret⟩ := E
  exact fun H locs ls hw hl => lv_ishl hx hb hdg (k H locs ls hw hl)

theorem wm_ishr (E : EV X cc nL own ret) {x y : Int32} (hdg : decode cc pc = .ok (.ishr, 1))
    (k : WM X nL (pc + 1) lv ((vI (x >>> (y &&& 31))) :: st) cells slots μ) : WM X nL pc lv ((vI y) :: (vI x) :: st) cells slots μ := by
  obtain ⟨G, ed, lo, p, l, e, R, s, m, args, below, meth, c, Q⟩ := X
  obtain ⟨hx, hb, hml, hown, hts, hN, hK, hO, hlo, hlk, hret⟩ := E
  exact fun H locs ls hw hl => lv_ishr hx hb hdg (k H locs ls hw hl)

theorem wm_iushr (E : EV X cc nL own ret) {x y : Int32} (hdg : decode cc pc = .ok (.iushr, 1))
    (k : WM X nL (pc + 1) lv ((vI (x.toUInt32 >>> (y.toUInt32 &&& Int32.toUInt32 31)).toInt32) :: st) cells slots μ) : WM X nL pc lv ((vI y) :: (vI x) :: st) cells slots μ := by
  obtain ⟨G, ed, lo, p, l, e, R, s, m, args, below, meth, c, Q⟩ := X
  obtain ⟨hx, hb, hml, hown, hts, hN, hK, hO, hlo, hlk, hret⟩ := E
  exact fun H locs ls hw hl => lv_iushr hx hb hdg rfl (k H locs ls hw hl)

theorem wm_lshl (E : EV X cc nL own ret) {x : Int64} {y : Int32} (hdg : decode cc pc = .ok (.lshl, 1))
    (k : WM X nL (pc + 1) lv ((vL (x <<< (y.toInt64 &&& 63))) :: st) cells slots μ) : WM X nL pc lv ((vI y) :: (vL x) :: st) cells slots μ := by
  obtain ⟨G, ed, lo, p, l, e, R, s, m, args, below, meth, c, Q⟩ := X
  obtain ⟨hx, hb, hml, hown, hts, hN, hK, hO, hlo, hlk, hret⟩ := E
  exact fun H locs ls hw hl => lv_lshl hx hb hdg rfl (k H locs ls hw hl)

theorem wm_i2l (E : EV X cc nL own ret) {x : Int32} (hdg : decode cc pc = .ok (.i2l, 1))
    (k : WM X nL (pc + 1) lv ((vL x.toInt64) :: st) cells slots μ) : WM X nL pc lv ((vI x) :: st) cells slots μ := by
  obtain ⟨G, ed, lo, p, l, e, R, s, m, args, below, meth, c, Q⟩ := X
  obtain ⟨hx, hb, hml, hown, hts, hN, hK, hO, hlo, hlk, hret⟩ := E
  exact fun H locs ls hw hl => lv_i2l hx hb hdg rfl (k H locs ls hw hl)

theorem wm_l2i (E : EV X cc nL own ret) {x : Int64} (hdg : decode cc pc = .ok (.l2i, 1))
    (k : WM X nL (pc + 1) lv ((vI x.toInt32) :: st) cells slots μ) : WM X nL pc lv ((vL x) :: st) cells slots μ := by
  obtain ⟨G, ed, lo, p, l, e, R, s, m, args, below, meth, c, Q⟩ := X
  obtain ⟨hx, hb, hml, hown, hts, hN, hK, hO, hlo, hlk, hret⟩ := E
  exact fun H locs ls hw hl => lv_l2i hx hb hdg rfl (k H locs ls hw hl)

theorem wm_i2c (E : EV X cc nL own ret) {x : Int32} (hdg : decode cc pc = .ok (.i2c, 1))
    (k : WM X nL (pc + 1) lv ((vI (x.toUInt32 % 65536).toInt32) :: st) cells slots μ) : WM X nL pc lv ((vI x) :: st) cells slots μ := by
  obtain ⟨G, ed, lo, p, l, e, R, s, m, args, below, meth, c, Q⟩ := X
  obtain ⟨hx, hb, hml, hown, hts, hN, hK, hO, hlo, hlk, hret⟩ := E
  exact fun H locs ls hw hl => lv_i2c hx hb hdg rfl (k H locs ls hw hl)

theorem wm_lcmp (E : EV X cc nL own ret) {x y : Int64} (hdg : decode cc pc = .ok (.lcmp, 1))
    (k : WM X nL (pc + 1) lv ((vI (lg_cmp x y)) :: st) cells slots μ) : WM X nL pc lv ((vL y) :: (vL x) :: st) cells slots μ := by
  obtain ⟨G, ed, lo, p, l, e, R, s, m, args, below, meth, c, Q⟩ := X
  obtain ⟨hx, hb, hml, hown, hts, hN, hK, hO, hlo, hlk, hret⟩ := E
  exact fun H locs ls hw hl => W.lcmp hx hb hdg (k H locs ls hw hl)

theorem wm_iconst (E : EV X cc nL own ret) {n : Int} {x : Int32} (hdg : decode cc pc = .ok (.iconst n, 1)) (hv : Int32.ofInt n = x)
    (k : WM X nL (pc + 1) lv ((vI x) :: st) cells slots μ) : WM X nL pc lv (st) cells slots μ := by
  obtain ⟨G, ed, lo, p, l, e, R, s, m, args, below, meth, c, Q⟩ := X
  obtain ⟨hx, hb, hml, hown, hts, hN, hK, hO, hlo, hlk, hret⟩ := E
  exact fun H locs ls hw hl => lv_iconst hx hb hdg hv (k H locs ls hw hl)

theorem wm_bipush (E : EV X cc nL own ret) {n : Int} {x : Int32} (hdg : decode cc pc = .ok (.bipush n, 2)) (hv : (Int8.ofInt n).toInt32 = x)
    (k : WM X nL (pc + 2) lv ((vI x) :: st) cells slots μ) : WM X nL pc lv (st) cells slots μ := by
  obtain ⟨G, ed, lo, p, l, e, R, s, m, args, below, meth, c, Q⟩ := X
  obtain ⟨hx, hb, hml, hown, hts, hN, hK, hO, hlo, hlk, hret⟩ := E
  exact fun H locs ls hw hl => lv_bipush hx hb hdg hv (k H locs ls hw hl)

theorem wm_sipush (E : EV X cc nL own ret) {n : Int} {x : Int32} (hdg : decode cc pc = .ok (.sipush n, 3)) (hv : (Int16.ofInt n).toInt32 = x)
    (k : WM X nL (pc + 3) lv ((vI x) :: st) cells slots μ) : WM X nL pc lv (st) cells slots μ := by
  obtain ⟨G, ed, lo, p, l, e, R, s, m, args, below, meth, c, Q⟩ := X
  obtain ⟨hx, hb, hml, hown, hts, hN, hK, hO, hlo, hlk, hret⟩ := E
  exact fun H locs ls hw hl => lv_sipush hx hb hdg hv (k H locs ls hw hl)

theorem wm_lconst (E : EV X cc nL own ret) {n : Fin 2} {x : Int64} (hdg : decode cc pc = .ok (.lconst n, 1)) (hv : Int64.ofNat (n : Nat) = x)
    (k : WM X nL (pc + 1) lv ((vL x) :: st) cells slots μ) : WM X nL pc lv (st) cells slots μ := by
  obtain ⟨G, ed, lo, p, l, e, R, s, m, args, below, meth, c, Q⟩ := X
  obtain ⟨hx, hb, hml, hown, hts, hN, hK, hO, hlo, hlk, hret⟩ := E
  exact fun H locs ls hw hl => lv_lconst hx hb hdg hv (k H locs ls hw hl)

theorem wm_ldc (E : EV X cc nL own ret) {index : Nat} {x : Int32} (hc : Cond.constant own index x ∈ GW) (hdg : decode cc pc = .ok (.ldc index, 2))
    (k : WM X nL (pc + 2) lv ((vI x) :: st) cells slots μ) : WM X nL pc lv (st) cells slots μ := by
  obtain ⟨G, ed, lo, p, l, e, R, s, m, args, below, meth, c, Q⟩ := X
  obtain ⟨hx, hb, hml, hown, hts, hN, hK, hO, hlo, hlk, hret⟩ := E
  exact fun H locs ls hw hl => lv_ldc hx hb hown (hts _ hc) hdg (k H locs ls hw hl)

theorem wm_ldcw (E : EV X cc nL own ret) {index : Nat} {x : Int32} (hc : Cond.constant own index x ∈ GW) (hdg : decode cc pc = .ok (.ldc_w index, 3))
    (k : WM X nL (pc + 3) lv ((vI x) :: st) cells slots μ) : WM X nL pc lv (st) cells slots μ := by
  obtain ⟨G, ed, lo, p, l, e, R, s, m, args, below, meth, c, Q⟩ := X
  obtain ⟨hx, hb, hml, hown, hts, hN, hK, hO, hlo, hlk, hret⟩ := E
  exact fun H locs ls hw hl => lv_ldcw hx hb hown (hts _ hc) hdg (k H locs ls hw hl)

theorem wm_ldc2 (E : EV X cc nL own ret) {index : Nat} {x : Int64} (hc : Cond.constantLong own index x ∈ GW) (hdg : decode cc pc = .ok (.ldc2_w index, 3))
    (k : WM X nL (pc + 3) lv ((vL x) :: st) cells slots μ) : WM X nL pc lv (st) cells slots μ := by
  obtain ⟨G, ed, lo, p, l, e, R, s, m, args, below, meth, c, Q⟩ := X
  obtain ⟨hx, hb, hml, hown, hts, hN, hK, hO, hlo, hlk, hret⟩ := E
  exact fun H locs ls hw hl => lv_ldc2 hx hb hown (hts _ hc) hdg (k H locs ls hw hl)

theorem wm_null (E : EV X cc nL own ret)  (hdg : decode cc pc = .ok (.aconst_null, 1))
    (k : WM X nL (pc + 1) lv ((vR none) :: st) cells slots μ) : WM X nL pc lv (st) cells slots μ := by
  obtain ⟨G, ed, lo, p, l, e, R, s, m, args, below, meth, c, Q⟩ := X
  obtain ⟨hx, hb, hml, hown, hts, hN, hK, hO, hlo, hlk, hret⟩ := E
  exact fun H locs ls hw hl => lv_null hx hb hdg (k H locs ls hw hl)

theorem wm_dup (E : EV X cc nL own ret) {x : TV} (hdg : decode cc pc = .ok (.dup, 1)) (hc : tcat x = 1)
    (k : WM X nL (pc + 1) lv ((x) :: (x) :: st) cells slots μ) : WM X nL pc lv ((x) :: st) cells slots μ := by
  obtain ⟨G, ed, lo, p, l, e, R, s, m, args, below, meth, c, Q⟩ := X
  obtain ⟨hx, hb, hml, hown, hts, hN, hK, hO, hlo, hlk, hret⟩ := E
  exact fun H locs ls hw hl => lv_dup hx hb hdg (tcat_eq x ▸ hc) (k H locs ls hw hl)

theorem wm_pop (E : EV X cc nL own ret) {x : TV} (hdg : decode cc pc = .ok (.pop, 1)) (hc : tcat x = 1)
    (k : WM X nL (pc + 1) lv (st) cells slots μ) : WM X nL pc lv ((x) :: st) cells slots μ := by
  obtain ⟨G, ed, lo, p, l, e, R, s, m, args, below, meth, c, Q⟩ := X
  obtain ⟨hx, hb, hml, hown, hts, hN, hK, hO, hlo, hlk, hret⟩ := E
  exact fun H locs ls hw hl => lv_pop hx hb hdg (tcat_eq x ▸ hc) (k H locs ls hw hl)

theorem wm_dup_x1 (E : EV X cc nL own ret) {x y : TV} (hdg : decode cc pc = .ok (.dup_x1, 1)) (hc : tcat x = 1) (hd : tcat y = 1)
    (k : WM X nL (pc + 1) lv ((x) :: (y) :: (x) :: st) cells slots μ) : WM X nL pc lv ((x) :: (y) :: st) cells slots μ := by
  obtain ⟨G, ed, lo, p, l, e, R, s, m, args, below, meth, c, Q⟩ := X
  obtain ⟨hx, hb, hml, hown, hts, hN, hK, hO, hlo, hlk, hret⟩ := E
  exact fun H locs ls hw hl => lv_dup_x1 hx hb hdg (tcat_eq x ▸ hc) (tcat_eq y ▸ hd) (k H locs ls hw hl)

theorem wm_dup2_11 (E : EV X cc nL own ret) {x y : TV} (hdg : decode cc pc = .ok (.dup2, 1)) (hc : tcat x = 1) (hd : tcat y = 1)
    (k : WM X nL (pc + 1) lv ((x) :: (y) :: (x) :: (y) :: st) cells slots μ) : WM X nL pc lv ((x) :: (y) :: st) cells slots μ := by
  obtain ⟨G, ed, lo, p, l, e, R, s, m, args, below, meth, c, Q⟩ := X
  obtain ⟨hx, hb, hml, hown, hts, hN, hK, hO, hlo, hlk, hret⟩ := E
  exact fun H locs ls hw hl => lv_dup2_11 hx hb hdg (tcat_eq x ▸ hc) (tcat_eq y ▸ hd) (k H locs ls hw hl)

theorem wm_iload_n (E : EV X cc nL own ret) {z : Fin 4} {i j : Nat} {x : Int32} (hdg : decode cc pc = .ok (.iload_n z, 1)) (hi : (z : Nat) = i) (hj : lv[j]? = some (i, vI x))
    (k : WM X nL (pc + 1) lv ((vI x) :: st) cells slots μ) : WM X nL pc lv (st) cells slots μ := by
  obtain ⟨G, ed, lo, p, l, e, R, s, m, args, below, meth, c, Q⟩ := X
  obtain ⟨hx, hb, hml, hown, hts, hN, hK, hO, hlo, hlk, hret⟩ := E
  exact fun H locs ls hw hl => lv_iload_n hx hb hdg hi (tv_at hl hj) (k H locs ls hw hl)

theorem wm_iload (E : EV X cc nL own ret) {i j : Nat} {x : Int32} (hdg : decode cc pc = .ok (.iload i, 2)) (hj : lv[j]? = some (i, vI x))
    (k : WM X nL (pc + 2) lv ((vI x) :: st) cells slots μ) : WM X nL pc lv (st) cells slots μ := by
  obtain ⟨G, ed, lo, p, l, e, R, s, m, args, below, meth, c, Q⟩ := X
  obtain ⟨hx, hb, hml, hown, hts, hN, hK, hO, hlo, hlk, hret⟩ := E
  exact fun H locs ls hw hl => lv_iload hx hb hdg (tv_at hl hj) (k H locs ls hw hl)

theorem wm_lload_n (E : EV X cc nL own ret) {z : Fin 4} {i j : Nat} {x : Int64} (hdg : decode cc pc = .ok (.lload_n z, 1)) (hi : (z : Nat) = i) (hj : lv[j]? = some (i, vL x))
    (k : WM X nL (pc + 1) lv ((vL x) :: st) cells slots μ) : WM X nL pc lv (st) cells slots μ := by
  obtain ⟨G, ed, lo, p, l, e, R, s, m, args, below, meth, c, Q⟩ := X
  obtain ⟨hx, hb, hml, hown, hts, hN, hK, hO, hlo, hlk, hret⟩ := E
  exact fun H locs ls hw hl => lv_lload_n hx hb hdg hi (tv_at hl hj) (k H locs ls hw hl)

theorem wm_lload (E : EV X cc nL own ret) {i j : Nat} {x : Int64} (hdg : decode cc pc = .ok (.lload i, 2)) (hj : lv[j]? = some (i, vL x))
    (k : WM X nL (pc + 2) lv ((vL x) :: st) cells slots μ) : WM X nL pc lv (st) cells slots μ := by
  obtain ⟨G, ed, lo, p, l, e, R, s, m, args, below, meth, c, Q⟩ := X
  obtain ⟨hx, hb, hml, hown, hts, hN, hK, hO, hlo, hlk, hret⟩ := E
  exact fun H locs ls hw hl => lv_lload hx hb hdg (tv_at hl hj) (k H locs ls hw hl)

theorem wm_aload_n (E : EV X cc nL own ret) {z : Fin 4} {i j : Nat} {x : Option Nat} (hdg : decode cc pc = .ok (.aload_n z, 1)) (hi : (z : Nat) = i) (hj : lv[j]? = some (i, vR x))
    (k : WM X nL (pc + 1) lv ((vR x) :: st) cells slots μ) : WM X nL pc lv st cells slots μ := by
  obtain ⟨G, ed, lo, p, l, e, R, s, m, args, below, meth, c, Q⟩ := X
  obtain ⟨hx, hb, hml, hown, hts, hN, hK, hO, hlo, hlk, hret⟩ := E
  cases x with
  | none => exact fun H locs ls hw hl => lv_aload_nN hx hb hdg hi (tv_at hl hj) (k H locs ls hw hl)
  | some a => exact fun H locs ls hw hl => lv_aload_n hx hb hdg hi (tv_at hl hj) (k H locs ls hw hl)

theorem wm_aload (E : EV X cc nL own ret) {i j : Nat} {x : Option Nat} (hdg : decode cc pc = .ok (.aload i, 2)) (hj : lv[j]? = some (i, vR x))
    (k : WM X nL (pc + 2) lv ((vR x) :: st) cells slots μ) : WM X nL pc lv st cells slots μ := by
  obtain ⟨G, ed, lo, p, l, e, R, s, m, args, below, meth, c, Q⟩ := X
  obtain ⟨hx, hb, hml, hown, hts, hN, hK, hO, hlo, hlk, hret⟩ := E
  cases x with
  | none => exact fun H locs ls hw hl => lv_aloadN hx hb hdg (tv_at hl hj) (k H locs ls hw hl)
  | some a => exact fun H locs ls hw hl => lv_aload hx hb hdg (tv_at hl hj) (k H locs ls hw hl)

theorem wm_istore_n (E : EV X cc nL own ret) {z : Fin 4} {i : Nat} {x : Int32} (hdg : decode cc pc = .ok (.istore_n z, 1)) (hi : (z : Nat) = i) {lv' : List (Nat × TV)} (hn : i < nL) (hl' : tv_s1 i (vI x) lv = lv')
    (k : WM X nL (pc + 1) lv' st cells slots μ) : WM X nL pc lv ((vI x) :: st) cells slots μ := by
  obtain ⟨G, ed, lo, p, l, e, R, s, m, args, below, meth, c, Q⟩ := X
  obtain ⟨hx, hb, hml, hown, hts, hN, hK, hO, hlo, hlk, hret⟩ := E
  subst hl'
  exact fun H locs ls hw hl => lv_istore_n hx hb hdg hi hl hn (tv_s1_eq i (vI x) lv) (fun ls' hl' => k H locs ls' hw hl')

theorem wm_istore (E : EV X cc nL own ret) {i : Nat} {x : Int32} (hdg : decode cc pc = .ok (.istore i, 2)) {lv' : List (Nat × TV)} (hn : i < nL) (hl' : tv_s1 i (vI x) lv = lv')
    (k : WM X nL (pc + 2) lv' st cells slots μ) : WM X nL pc lv ((vI x) :: st) cells slots μ := by
  obtain ⟨G, ed, lo, p, l, e, R, s, m, args, below, meth, c, Q⟩ := X
  obtain ⟨hx, hb, hml, hown, hts, hN, hK, hO, hlo, hlk, hret⟩ := E
  subst hl'
  exact fun H locs ls hw hl => lv_istore hx hb hdg hl hn (tv_s1_eq i (vI x) lv) (fun ls' hl' => k H locs ls' hw hl')

theorem wm_lstore_n (E : EV X cc nL own ret) {z : Fin 4} {i : Nat} {x : Int64} (hdg : decode cc pc = .ok (.lstore_n z, 1)) (hi : (z : Nat) = i) {lv' : List (Nat × TV)} (hn : i + 1 < nL) (hl' : tv_s2 i (vL x) lv = lv')
    (k : WM X nL (pc + 1) lv' st cells slots μ) : WM X nL pc lv ((vL x) :: st) cells slots μ := by
  obtain ⟨G, ed, lo, p, l, e, R, s, m, args, below, meth, c, Q⟩ := X
  obtain ⟨hx, hb, hml, hown, hts, hN, hK, hO, hlo, hlk, hret⟩ := E
  subst hl'
  exact fun H locs ls hw hl => lv_lstore_n hx hb hdg hi hl hn (tv_s2_eq i (vL x) lv) (fun ls' hl' => k H locs ls' hw hl')

theorem wm_lstore (E : EV X cc nL own ret) {i : Nat} {x : Int64} (hdg : decode cc pc = .ok (.lstore i, 2)) {lv' : List (Nat × TV)} (hn : i + 1 < nL) (hl' : tv_s2 i (vL x) lv = lv')
    (k : WM X nL (pc + 2) lv' st cells slots μ) : WM X nL pc lv ((vL x) :: st) cells slots μ := by
  obtain ⟨G, ed, lo, p, l, e, R, s, m, args, below, meth, c, Q⟩ := X
  obtain ⟨hx, hb, hml, hown, hts, hN, hK, hO, hlo, hlk, hret⟩ := E
  subst hl'
  exact fun H locs ls hw hl => lv_lstore hx hb hdg hl hn (tv_s2_eq i (vL x) lv) (fun ls' hl' => k H locs ls' hw hl')

theorem wm_astore_n (E : EV X cc nL own ret) {z : Fin 4} {i : Nat} {x : Option Nat} (hdg : decode cc pc = .ok (.astore_n z, 1)) (hi : (z : Nat) = i) {lv' : List (Nat × TV)} (hn : i < nL) (hl' : tv_s1 i (vR x) lv = lv')
    (k : WM X nL (pc + 1) lv' st cells slots μ) : WM X nL pc lv ((vR x) :: st) cells slots μ := by
  obtain ⟨G, ed, lo, p, l, e, R, s, m, args, below, meth, c, Q⟩ := X
  obtain ⟨hx, hb, hml, hown, hts, hN, hK, hO, hlo, hlk, hret⟩ := E
  subst hl'
  cases x with
  | none => exact fun H locs ls hw hl => lv_astore_nN hx hb hdg hi hl hn (tv_s1_eq i (vR none) lv) (fun ls' hl' => k H locs ls' hw hl')
  | some a => exact fun H locs ls hw hl => lv_astore_n hx hb hdg hi hl hn (tv_s1_eq i (vR (some a)) lv) (fun ls' hl' => k H locs ls' hw hl')

theorem wm_astore (E : EV X cc nL own ret) {i : Nat} {x : Option Nat} (hdg : decode cc pc = .ok (.astore i, 2)) {lv' : List (Nat × TV)} (hn : i < nL) (hl' : tv_s1 i (vR x) lv = lv')
    (k : WM X nL (pc + 2) lv' st cells slots μ) : WM X nL pc lv ((vR x) :: st) cells slots μ := by
  obtain ⟨G, ed, lo, p, l, e, R, s, m, args, below, meth, c, Q⟩ := X
  obtain ⟨hx, hb, hml, hown, hts, hN, hK, hO, hlo, hlk, hret⟩ := E
  subst hl'
  cases x with
  | none => exact fun H locs ls hw hl => lv_astoreN hx hb hdg hl hn (tv_s1_eq i (vR none) lv) (fun ls' hl' => k H locs ls' hw hl')
  | some a => exact fun H locs ls hw hl => lv_astore hx hb hdg hl hn (tv_s1_eq i (vR (some a)) lv) (fun ls' hl' => k H locs ls' hw hl')

theorem wm_iinc (E : EV X cc nL own ret) {i j : Nat} {n : Int} {d x : Int32} (hdg : decode cc pc = .ok (.iinc i n, 3)) (hd : Int32.ofInt n = d) (hj : lv[j]? = some (i, vI x)) {lv' : List (Nat × TV)} (hn : i < nL) (hl' : tv_s1 i (vI (x + d)) lv = lv')
    (k : WM X nL (pc + 3) lv' st cells slots μ) : WM X nL pc lv st cells slots μ := by
  obtain ⟨G, ed, lo, p, l, e, R, s, m, args, below, meth, c, Q⟩ := X
  obtain ⟨hx, hb, hml, hown, hts, hN, hK, hO, hlo, hlk, hret⟩ := E
  subst hl'; subst hd
  exact fun H locs ls hw hl => lv_iinc hx hb hdg hl (tv_get hj) rfl hn (tv_s1_eq i (vI (x + Int32.ofInt n)) lv) (fun ls' hl' => k H locs ls' hw hl')

theorem wm_if_eq (E : EV X cc nL own ret) {x : Int32} {off : Int} {tgt : Nat} (hdg : decode cc pc = .ok (.ifCond .eq off, 3)) (ht : (pc : Int) + off = (tgt : Int))
    (kt : x = 0 → WM X nL tgt lv st cells slots μ) (kf : ¬ x = 0 → WM X nL (pc + 3) lv st cells slots μ) : WM X nL pc lv ((vI x) :: st) cells slots μ := by
  obtain ⟨G, ed, lo, p, l, e, R, s, m, args, below, meth, c, Q⟩ := X
  obtain ⟨hx, hb, hml, hown, hts, hN, hK, hO, hlo, hlk, hret⟩ := E
  exact fun H locs ls hw hl => lv_if_eq hx hb hdg ht (fun q => kt q H locs ls hw hl) (fun q => kf q H locs ls hw hl)

theorem wm_if_ne (E : EV X cc nL own ret) {x : Int32} {off : Int} {tgt : Nat} (hdg : decode cc pc = .ok (.ifCond .ne off, 3)) (ht : (pc : Int) + off = (tgt : Int))
    (kt : ¬ x = 0 → WM X nL tgt lv st cells slots μ) (kf : x = 0 → WM X nL (pc + 3) lv st cells slots μ) : WM X nL pc lv ((vI x) :: st) cells slots μ := by
  obtain ⟨G, ed, lo, p, l, e, R, s, m, args, below, meth, c, Q⟩ := X
  obtain ⟨hx, hb, hml, hown, hts, hN, hK, hO, hlo, hlk, hret⟩ := E
  exact fun H locs ls hw hl => lv_if_ne hx hb hdg ht (fun q => kt q H locs ls hw hl) (fun q => kf q H locs ls hw hl)

theorem wm_if_lt (E : EV X cc nL own ret) {x : Int32} {off : Int} {tgt : Nat} (hdg : decode cc pc = .ok (.ifCond .lt off, 3)) (ht : (pc : Int) + off = (tgt : Int))
    (kt : x < 0 → WM X nL tgt lv st cells slots μ) (kf : ¬ x < 0 → WM X nL (pc + 3) lv st cells slots μ) : WM X nL pc lv ((vI x) :: st) cells slots μ := by
  obtain ⟨G, ed, lo, p, l, e, R, s, m, args, below, meth, c, Q⟩ := X
  obtain ⟨hx, hb, hml, hown, hts, hN, hK, hO, hlo, hlk, hret⟩ := E
  exact fun H locs ls hw hl => lv_if_lt hx hb hdg ht (fun q => kt q H locs ls hw hl) (fun q => kf q H locs ls hw hl)

theorem wm_if_ge (E : EV X cc nL own ret) {x : Int32} {off : Int} {tgt : Nat} (hdg : decode cc pc = .ok (.ifCond .ge off, 3)) (ht : (pc : Int) + off = (tgt : Int))
    (kt : 0 ≤ x → WM X nL tgt lv st cells slots μ) (kf : ¬ 0 ≤ x → WM X nL (pc + 3) lv st cells slots μ) : WM X nL pc lv ((vI x) :: st) cells slots μ := by
  obtain ⟨G, ed, lo, p, l, e, R, s, m, args, below, meth, c, Q⟩ := X
  obtain ⟨hx, hb, hml, hown, hts, hN, hK, hO, hlo, hlk, hret⟩ := E
  exact fun H locs ls hw hl => lv_if_ge hx hb hdg ht (fun q => kt q H locs ls hw hl) (fun q => kf q H locs ls hw hl)

theorem wm_if_gt (E : EV X cc nL own ret) {x : Int32} {off : Int} {tgt : Nat} (hdg : decode cc pc = .ok (.ifCond .gt off, 3)) (ht : (pc : Int) + off = (tgt : Int))
    (kt : 0 < x → WM X nL tgt lv st cells slots μ) (kf : ¬ 0 < x → WM X nL (pc + 3) lv st cells slots μ) : WM X nL pc lv ((vI x) :: st) cells slots μ := by
  obtain ⟨G, ed, lo, p, l, e, R, s, m, args, below, meth, c, Q⟩ := X
  obtain ⟨hx, hb, hml, hown, hts, hN, hK, hO, hlo, hlk, hret⟩ := E
  exact fun H locs ls hw hl => lv_if_gt hx hb hdg ht (fun q => kt q H locs ls hw hl) (fun q => kf q H locs ls hw hl)

theorem wm_if_le (E : EV X cc nL own ret) {x : Int32} {off : Int} {tgt : Nat} (hdg : decode cc pc = .ok (.ifCond .le off, 3)) (ht : (pc : Int) + off = (tgt : Int))
    (kt : x ≤ 0 → WM X nL tgt lv st cells slots μ) (kf : ¬ x ≤ 0 → WM X nL (pc + 3) lv st cells slots μ) : WM X nL pc lv ((vI x) :: st) cells slots μ := by
  obtain ⟨G, ed, lo, p, l, e, R, s, m, args, below, meth, c, Q⟩ := X
  obtain ⟨hx, hb, hml, hown, hts, hN, hK, hO, hlo, hlk, hret⟩ := E
  exact fun H locs ls hw hl => lv_if_le hx hb hdg ht (fun q => kt q H locs ls hw hl) (fun q => kf q H locs ls hw hl)

theorem wm_icmp_eq (E : EV X cc nL own ret) {x y : Int32} {off : Int} {tgt : Nat} (hdg : decode cc pc = .ok (.if_icmp .eq off, 3)) (ht : (pc : Int) + off = (tgt : Int))
    (kt : x = y → WM X nL tgt lv st cells slots μ) (kf : ¬ x = y → WM X nL (pc + 3) lv st cells slots μ) : WM X nL pc lv ((vI y) :: (vI x) :: st) cells slots μ := by
  obtain ⟨G, ed, lo, p, l, e, R, s, m, args, below, meth, c, Q⟩ := X
  obtain ⟨hx, hb, hml, hown, hts, hN, hK, hO, hlo, hlk, hret⟩ := E
  exact fun H locs ls hw hl => lv_icmp_eq hx hb hdg ht (fun q => kt q H locs ls hw hl) (fun q => kf q H locs ls hw hl)

theorem wm_icmp_ne (E : EV X cc nL own ret) {x y : Int32} {off : Int} {tgt : Nat} (hdg : decode cc pc = .ok (.if_icmp .ne off, 3)) (ht : (pc : Int) + off = (tgt : Int))
    (kt : ¬ x = y → WM X nL tgt lv st cells slots μ) (kf : x = y → WM X nL (pc + 3) lv st cells slots μ) : WM X nL pc lv ((vI y) :: (vI x) :: st) cells slots μ := by
  obtain ⟨G, ed, lo, p, l, e, R, s, m, args, below, meth, c, Q⟩ := X
  obtain ⟨hx, hb, hml, hown, hts, hN, hK, hO, hlo, hlk, hret⟩ := E
  exact fun H locs ls hw hl => lv_icmp_ne hx hb hdg ht (fun q => kt q H locs ls hw hl) (fun q => kf q H locs ls hw hl)

theorem wm_icmp_lt (E : EV X cc nL own ret) {x y : Int32} {off : Int} {tgt : Nat} (hdg : decode cc pc = .ok (.if_icmp .lt off, 3)) (ht : (pc : Int) + off = (tgt : Int))
    (kt : x < y → WM X nL tgt lv st cells slots μ) (kf : ¬ x < y → WM X nL (pc + 3) lv st cells slots μ) : WM X nL pc lv ((vI y) :: (vI x) :: st) cells slots μ := by
  obtain ⟨G, ed, lo, p, l, e, R, s, m, args, below, meth, c, Q⟩ := X
  obtain ⟨hx, hb, hml, hown, hts, hN, hK, hO, hlo, hlk, hret⟩ := E
  exact fun H locs ls hw hl => lv_icmp_lt hx hb hdg ht (fun q => kt q H locs ls hw hl) (fun q => kf q H locs ls hw hl)

theorem wm_icmp_ge (E : EV X cc nL own ret) {x y : Int32} {off : Int} {tgt : Nat} (hdg : decode cc pc = .ok (.if_icmp .ge off, 3)) (ht : (pc : Int) + off = (tgt : Int))
    (kt : y ≤ x → WM X nL tgt lv st cells slots μ) (kf : ¬ y ≤ x → WM X nL (pc + 3) lv st cells slots μ) : WM X nL pc lv ((vI y) :: (vI x) :: st) cells slots μ := by
  obtain ⟨G, ed, lo, p, l, e, R, s, m, args, below, meth, c, Q⟩ := X
  obtain ⟨hx, hb, hml, hown, hts, hN, hK, hO, hlo, hlk, hret⟩ := E
  exact fun H locs ls hw hl => lv_icmp_ge hx hb hdg ht (fun q => kt q H locs ls hw hl) (fun q => kf q H locs ls hw hl)

theorem wm_icmp_gt (E : EV X cc nL own ret) {x y : Int32} {off : Int} {tgt : Nat} (hdg : decode cc pc = .ok (.if_icmp .gt off, 3)) (ht : (pc : Int) + off = (tgt : Int))
    (kt : y < x → WM X nL tgt lv st cells slots μ) (kf : ¬ y < x → WM X nL (pc + 3) lv st cells slots μ) : WM X nL pc lv ((vI y) :: (vI x) :: st) cells slots μ := by
  obtain ⟨G, ed, lo, p, l, e, R, s, m, args, below, meth, c, Q⟩ := X
  obtain ⟨hx, hb, hml, hown, hts, hN, hK, hO, hlo, hlk, hret⟩ := E
  exact fun H locs ls hw hl => lv_icmp_gt hx hb hdg ht (fun q => kt q H locs ls hw hl) (fun q => kf q H locs ls hw hl)

theorem wm_icmp_le (E : EV X cc nL own ret) {x y : Int32} {off : Int} {tgt : Nat} (hdg : decode cc pc = .ok (.if_icmp .le off, 3)) (ht : (pc : Int) + off = (tgt : Int))
    (kt : x ≤ y → WM X nL tgt lv st cells slots μ) (kf : ¬ x ≤ y → WM X nL (pc + 3) lv st cells slots μ) : WM X nL pc lv ((vI y) :: (vI x) :: st) cells slots μ := by
  obtain ⟨G, ed, lo, p, l, e, R, s, m, args, below, meth, c, Q⟩ := X
  obtain ⟨hx, hb, hml, hown, hts, hN, hK, hO, hlo, hlk, hret⟩ := E
  exact fun H locs ls hw hl => lv_icmp_le hx hb hdg ht (fun q => kt q H locs ls hw hl) (fun q => kf q H locs ls hw hl)

theorem wm_acmp_eq (E : EV X cc nL own ret) {x y : Option Nat} {off : Int} {tgt : Nat} (hdg : decode cc pc = .ok (.if_acmp .eq off, 3)) (ht : (pc : Int) + off = (tgt : Int))
    (kt : x = y → WM X nL tgt lv st cells slots μ) (kf : ¬ x = y → WM X nL (pc + 3) lv st cells slots μ) : WM X nL pc lv ((vR y) :: (vR x) :: st) cells slots μ := by
  obtain ⟨G, ed, lo, p, l, e, R, s, m, args, below, meth, c, Q⟩ := X
  obtain ⟨hx, hb, hml, hown, hts, hN, hK, hO, hlo, hlk, hret⟩ := E
  exact fun H locs ls hw hl => lv_acmp_eq hx hb hdg ht (fun q => kt q H locs ls hw hl) (fun q => kf q H locs ls hw hl)

theorem wm_acmp_ne (E : EV X cc nL own ret) {x y : Option Nat} {off : Int} {tgt : Nat} (hdg : decode cc pc = .ok (.if_acmp .ne off, 3)) (ht : (pc : Int) + off = (tgt : Int))
    (kt : ¬ x = y → WM X nL tgt lv st cells slots μ) (kf : x = y → WM X nL (pc + 3) lv st cells slots μ) : WM X nL pc lv ((vR y) :: (vR x) :: st) cells slots μ := by
  obtain ⟨G, ed, lo, p, l, e, R, s, m, args, below, meth, c, Q⟩ := X
  obtain ⟨hx, hb, hml, hown, hts, hN, hK, hO, hlo, hlk, hret⟩ := E
  exact fun H locs ls hw hl => lv_acmp_ne hx hb hdg ht (fun q => kt q H locs ls hw hl) (fun q => kf q H locs ls hw hl)

theorem wm_ifnull (E : EV X cc nL own ret) {x : Option Nat} {off : Int} {tgt : Nat} (hdg : decode cc pc = .ok (.ifnull off, 3)) (ht : (pc : Int) + off = (tgt : Int))
    (kt : x = none → WM X nL tgt lv st cells slots μ) (kf : ¬ x = none → WM X nL (pc + 3) lv st cells slots μ) : WM X nL pc lv ((vR x) :: st) cells slots μ := by
  obtain ⟨G, ed, lo, p, l, e, R, s, m, args, below, meth, c, Q⟩ := X
  obtain ⟨hx, hb, hml, hown, hts, hN, hK, hO, hlo, hlk, hret⟩ := E
  cases x with
  | none => exact fun H locs ls hw hl => lv_ifnullN hx hb hdg ht (kt rfl H locs ls hw hl)
  | some a => exact fun H locs ls hw hl => lv_ifnull hx hb hdg (kf (fun q => by cases q) H locs ls hw hl)

theorem wm_ifnonnull (E : EV X cc nL own ret) {x : Option Nat} {off : Int} {tgt : Nat} (hdg : decode cc pc = .ok (.ifnonnull off, 3)) (ht : (pc : Int) + off = (tgt : Int))
    (kt : ¬ x = none → WM X nL tgt lv st cells slots μ) (kf : x = none → WM X nL (pc + 3) lv st cells slots μ) : WM X nL pc lv ((vR x) :: st) cells slots μ := by
  obtain ⟨G, ed, lo, p, l, e, R, s, m, args, below, meth, c, Q⟩ := X
  obtain ⟨hx, hb, hml, hown, hts, hN, hK, hO, hlo, hlk, hret⟩ := E
  cases x with
  | none => exact fun H locs ls hw hl => lv_ifnonnullN hx hb hdg (kf rfl H locs ls hw hl)
  | some a => exact fun H locs ls hw hl => lv_ifnonnull hx hb hdg ht (kt (fun q => by cases q) H locs ls hw hl)

theorem wm_goto (E : EV X cc nL own ret) {off : Int} {tgt : Nat} (hdg : decode cc pc = .ok (.goto off, 3)) (ht : (pc : Int) + off = (tgt : Int)) (k : WM X nL tgt lv st cells slots μ) : WM X nL pc lv st cells slots μ := by
  obtain ⟨G, ed, lo, p, l, e, R, s, m, args, below, meth, c, Q⟩ := X
  obtain ⟨hx, hb, hml, hown, hts, hN, hK, hO, hlo, hlk, hret⟩ := E
  exact fun H locs ls hw hl => lv_goto hx hb hdg ht (k H locs ls hw hl)

theorem wm_tabIn (E : EV X cc nL own ret) {dflt lo hi : Int} {offs : Array Int} {len : Nat} {x : Int32} {off : Int} {tgt : Nat} (hdg : decode cc pc = .ok (.tableswitch dflt lo hi offs, len)) (v : Int) (hv : x.toInt = v) (h1 : ¬ v < lo) (h2 : ¬ hi < v) (ho : offs[(v - lo).toNat]? = some off) (ht : (pc : Int) + off = (tgt : Int)) (k : WM X nL tgt lv st cells slots μ) : WM X nL pc lv ((vI x) :: st) cells slots μ := by
  obtain ⟨G, ed, lo, p, l, e, R, s, m, args, below, meth, c, Q⟩ := X
  obtain ⟨hx, hb, hml, hown, hts, hN, hK, hO, hlo, hlk, hret⟩ := E
  subst hv
  exact fun H locs ls hw hl => lv_tableIn hx hb hdg h1 h2 ho ht (k H locs ls hw hl)

theorem wm_tabOut (E : EV X cc nL own ret) {dflt lo hi : Int} {offs : Array Int} {len : Nat} {x : Int32} {tgt : Nat} (hdg : decode cc pc = .ok (.tableswitch dflt lo hi offs, len)) (h : x.toInt < lo ∨ hi < x.toInt) (ht : (pc : Int) + dflt = (tgt : Int)) (k : WM X nL tgt lv st cells slots μ) : WM X nL pc lv ((vI x) :: st) cells slots μ := by
  obtain ⟨G, ed, lo, p, l, e, R, s, m, args, below, meth, c, Q⟩ := X
  obtain ⟨hx, hb, hml, hown, hts, hN, hK, hO, hlo, hlk, hret⟩ := E
  exact fun H locs ls hw hl => lv_tableOut hx hb hdg h ht (k H locs ls hw hl)

theorem wm_lookup (E : EV X cc nL own ret) {dflt : Int} {ps : Array (Int × Int)} {len : Nat} {x : Int32} {off : Int} {tgt : Nat} (hdg : decode cc pc = .ok (.lookupswitch dflt ps, len)) (hp : (ps.toList.zip (ps.toList.drop 1)).all (fun (a, next) => a.1 < next.1) = true) (ho : Op.lookupswitch.offset ps.toList dflt x.toInt = off) (ht : (pc : Int) + off = (tgt : Int)) (k : WM X nL tgt lv st cells slots μ) : WM X nL pc lv ((vI x) :: st) cells slots μ := by
  obtain ⟨G, ed, lo, p, l, e, R, s, m, args, below, meth, c, Q⟩ := X
  obtain ⟨hx, hb, hml, hown, hts, hN, hK, hO, hlo, hlk, hret⟩ := E
  exact fun H locs ls hw hl => lv_lookup hx hb hdg hp ho ht (k H locs ls hw hl)

end

