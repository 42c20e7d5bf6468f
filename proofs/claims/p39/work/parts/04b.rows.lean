/-! further rows: longs in locals, shifts to the right -/
section ROWSB
variable {E : gE} {M : gM} {P : gP} {sh : Sh} {sz : Nat} {V : Vl} {cu su pc : Nat} {L : List (Option Value)} {rest : List Value}
theorem g_ishr {x y : Int32} (hdg : decode M.1 pc = .ok (.ishr, 1)) (k : G E M P sh sz V cu su (pc + 1) L (.int (x >>> (y &&& 31)) :: rest)) : G E M P sh sz V cu su pc L (.int y :: .int x :: rest) :=
  fun p e s m args below meth c C H locs ls D => lv_ishr C.1 C.2.1 hdg (k p e s m args below meth c C H locs ls D)
theorem g_iushr {x y v : Int32} (hdg : decode M.1 pc = .ok (.iushr, 1)) (hv : (x.toUInt32 >>> (y.toUInt32 &&& Int32.toUInt32 31)).toInt32 = v) (k : G E M P sh sz V cu su (pc + 1) L (.int v :: rest)) : G E M P sh sz V cu su pc L (.int y :: .int x :: rest) :=
  fun p e s m args below meth c C H locs ls D => lv_iushr C.1 C.2.1 hdg hv (k p e s m args below meth c C H locs ls D)
theorem g_i2b {x v : Int32} (hdg : decode M.1 pc = .ok (.i2b, 1)) (hv : x.toInt8.toInt32 = v) (k : G E M P sh sz V cu su (pc + 1) L (.int v :: rest)) : G E M P sh sz V cu su pc L (.int x :: rest) :=
  fun p e s m args below meth c C H locs ls D => lv_i2b C.1 C.2.1 hdg hv (k p e s m args below meth c C H locs ls D)
theorem g_lmul {x y : Int64} (hdg : decode M.1 pc = .ok (.lmul, 1)) (k : G E M P sh sz V cu su (pc + 1) L (.long (x * y) :: rest)) : G E M P sh sz V cu su pc L (.long y :: .long x :: rest) :=
  fun p e s m args below meth c C H locs ls D => lv_lmul C.1 C.2.1 hdg (k p e s m args below meth c C H locs ls D)
theorem g_lload_n {k : Fin 4} {x : Int64} (hdg : decode M.1 pc = .ok (.lload_n k, 1)) (hl : lg L (k : Nat) = some (.long x)) (kk : G E M P sh sz V cu su (pc + 1) L (.long x :: rest)) : G E M P sh sz V cu su pc L rest :=
  fun p e s m args below meth c C H locs ls D => lv_lload_n C.1 C.2.1 hdg rfl (lg_has D.1 hl) (kk p e s m args below meth c C H locs ls D)
theorem g_lload {i : Nat} {x : Int64} (hdg : decode M.1 pc = .ok (.lload i, 2)) (hl : lg L i = some (.long x)) (kk : G E M P sh sz V cu su (pc + 2) L (.long x :: rest)) : G E M P sh sz V cu su pc L rest :=
  fun p e s m args below meth c C H locs ls D => lv_lload C.1 C.2.1 hdg (lg_has D.1 hl) (kk p e s m args below meth c C H locs ls D)
theorem g_lstore_n {k : Fin 4} {x : Int64} (hdg : decode M.1 pc = .ok (.lstore_n k, 1)) (hi : (k : Nat) + 1 < M.2.1) (hc : lc1 L (k : Nat) = true) (hc2 : lg L ((k : Nat) + 1) = none) (kk : G E M P sh sz V cu su (pc + 1) (lst L (k : Nat) (.long x)) rest) : G E M P sh sz V cu su pc L (.long x :: rest) :=
  fun p e s m args below meth c C H locs ls D => lv_lstore_n C.1 C.2.1 hdg rfl D.1 hi rfl (fun ls' h => kk p e s m args below meth c C H locs ls' ⟨lv_mono h (lst_sub2 hc hc2), D.2⟩)
theorem g_lstore {i : Nat} {x : Int64} (hdg : decode M.1 pc = .ok (.lstore i, 2)) (hi : i + 1 < M.2.1) (hc : lc1 L i = true) (hc2 : lg L (i + 1) = none) (kk : G E M P sh sz V cu su (pc + 2) (lst L i (.long x)) rest) : G E M P sh sz V cu su pc L (.long x :: rest) :=
  fun p e s m args below meth c C H locs ls D => lv_lstore C.1 C.2.1 hdg D.1 hi rfl (fun ls' h => kk p e s m args below meth c C H locs ls' ⟨lv_mono h (lst_sub2 hc hc2), D.2⟩)
theorem g_dstore {i : Nat} {x : UInt64} (hdg : decode M.1 pc = .ok (.dstore i, 2)) (hi : i + 1 < M.2.1) (hc : lc1 L i = true) (hc2 : lg L (i + 1) = none) (kk : G E M P sh sz V cu su (pc + 2) (lst L i (.double x)) rest) : G E M P sh sz V cu su pc L (.double x :: rest) :=
  fun p e s m args below meth c C H locs ls D => lv_dstore C.1 C.2.1 hdg D.1 hi rfl (fun ls' h => kk p e s m args below meth c C H locs ls' ⟨lv_mono h (lst_sub2 hc hc2), D.2⟩)
end ROWSB
