/-! what the premises say where the law begins -/
section START
variable {s : State} {b : Nat}
abbrev aB (b : Nat) : Array Value := #[Value.ref b]
theorem lw_gW (hts : ∀ w ∈ lw_tbl, w.before (aB b) s = true) : ∀ w ∈ gW, w.before (aB b) s = true := fun w hw => hts w (List.mem_filter.mp hw).1
theorem inJ0 : ∀ w ∈ u_ws RJ0 TJ0 2, w ∈ gW := gW_r _ [505, 507] (by decide +kernel) (by decide +kernel)
theorem inJx00060 : ∀ w ∈ u_ws RJx00060 TJx00060 6, w ∈ gW := gW_r _ [493, 494, 495, 496, 497, 498] (by decide +kernel) (by decide +kernel)
theorem new_J0 : Cond.instantiable RJ0 4 ∈ gW := gW_at 504 (by decide +kernel) (by decide +kernel)
theorem new_Jx00060 : Cond.instantiable RJx00060 6 ∈ gW := gW_at 486 (by decide +kernel) (by decide +kernel)
/-- each class is known -/
theorem kn_ex (hts : ∀ w ∈ lw_tbl, w.before (aB b) s = true) : ∀ c : Nat, ∃ (cC : ClassId) (iS : Nat → Nat), ∀ q, vwCl[c]? = some q → u_Kn s q.1 q.2.1 q.2.2 cC iS := by
  have hg := lw_gW hts
  have one : ∀ {C : String} {T : u_T} {N n : Nat}, (∀ w ∈ u_ws C T N, w ∈ gW) → Cond.instantiable C n ∈ gW → ∃ (cC : ClassId) (iS : Nat → Nat), ∀ q, (some (C, T, N) : Option vw_C) = some q → u_Kn s q.1 q.2.1 q.2.2 cC iS := by
    intro C T N n h1 h2
    obtain ⟨cC, iS, h⟩ := u_known (ws := gW) hg h1 (hg _ h2)
    exact ⟨cC, iS, fun q hq => by cases hq; exact h⟩
  intro c
  match c with
  | 0 => exact one inJ0 new_J0
  | 1 => exact one inJx00060 new_Jx00060
  | 2 => exact one inX0 new_X0
  | 3 => exact one inX1 new_X1
  | 4 => exact one inX2 new_X2
  | 5 => exact one inX3 new_X3
  | 6 => exact one inX4 new_X4
  | 7 => exact one inX5 new_X5
  | 8 => exact one inX6 new_X6
  | 9 => exact one inX7 new_X7
  | n + 10 => exact ⟨0, fun _ => 0, fun q hq => by
      rw [List.getElem?_eq_none (by show 10 ≤ n + 10; omega)] at hq
      cases hq⟩
theorem ar_prim {ty : FieldType} (h : (Cond.arrayClass ty).before (aB b) s = true) : ∃ cA, ArrOfT s cA ty ∧ s.vm.findClass ("[" ++ ty.toString) = some cA := by
  obtain ⟨c, k, comp, h1, h2, h3⟩ := Cond.arrayClass_spec h
  exact ⟨c, fun n z => ⟨fun k' => (fun e => nomatch e), k, h2, comp, h3⟩, h1⟩
theorem ar_obj {C : String} (h : (Cond.arrayOver (.object C)).before (aB b) s = true) : ∃ cA, ArrOfT s cA (.object C) ∧ va_RA s cA (.object C) := by
  obtain ⟨comp, c, k, h1, h2, h3, h4, h5⟩ := Cond.arrayOver_spec h
  exact ⟨c, fun n z => ⟨fun k' => (fun e => nomatch e), k, h3, comp, h4⟩, k, comp, h3, h4, h1, h5⟩
theorem ar_ex (hts : ∀ w ∈ lw_tbl, w.before (aB b) s = true) : ∀ k : Nat, ∃ cA : ClassId, 20 ≤ k → k < 28 → ArrOfT s cA (gty k) ∧ va_RA s cA (gty k) := by
  have hg := lw_gW hts
  have oA : ∀ (C : String) (k : Nat), lw_tbl[k]? = some (Cond.arrayOver (.object C)) → ∃ cA, ArrOfT s cA (.object C) ∧ va_RA s cA (.object C) := fun C k h => ar_obj (hts _ (List.mem_of_getElem? h))
  intro k
  match k with
  | 20 => obtain ⟨c, h1, h2⟩ := ar_prim (hg _ arr_int); exact ⟨c, fun _ _ => ⟨h1, h2⟩⟩
  | 21 => obtain ⟨c, h1, h2⟩ := ar_prim (hg _ arr_char); exact ⟨c, fun _ _ => ⟨h1, h2⟩⟩
  | 22 => obtain ⟨c, h1, h2⟩ := ar_prim (hg _ arr_long); exact ⟨c, fun _ _ => ⟨h1, h2⟩⟩
  | 23 => obtain ⟨c, h1, h2⟩ := ar_prim (hg _ arr_double); exact ⟨c, fun _ _ => ⟨h1, h2⟩⟩
  | 24 => obtain ⟨c, h⟩ := oA RX5 98 (by decide +kernel); exact ⟨c, fun _ _ => h⟩
  | 25 => obtain ⟨c, h⟩ := oA RX2 96 (by decide +kernel); exact ⟨c, fun _ _ => h⟩
  | 26 => obtain ⟨c, h⟩ := oA RX0 100 (by decide +kernel); exact ⟨c, fun _ _ => h⟩
  | 27 => obtain ⟨c, h⟩ := oA RX4 210 (by decide +kernel); exact ⟨c, fun _ _ => h⟩
  | 0 | 1 | 2 | 3 | 4 | 5 | 6 | 7 | 8 | 9 | 10 | 11 | 12 | 13 | 14 | 15 | 16 | 17 | 18 | 19 => exact ⟨0, fun h => absurd h (by decide)⟩
  | n + 28 => exact ⟨0, fun _ h => absurd h (by omega)⟩
abbrev lwG : Cond := Jvm.Cond.and given_1 narrow_1
theorem eqi {A : Array Value} {t : Term} {v : Int32} (h : (Cond.eq t (.int v)).before A s = true) : t.eval A s none [] s = some (.int v) := Cond.eq_int h rfl
theorem lw_set {n : String} {x y z : Int32} {A : Nat → Prop} (hA : ∀ a : Nat, a < s.heap.size → ¬ A a) (hl : (Cond.laysStatic "IceConvoys" n "[I").before (aB b) s = true) (hini : (Cond.initialized "IceConvoys").before (aB b) s = true)
    (h1 : (Cond.arrayOf (.static "IceConvoys" n "[I") .int).before (aB b) s = true) (h2 : (Cond.eq (.length (.static "IceConvoys" n "[I")) (.int 3)).before (aB b) s = true)
    (h3 : (Cond.eq (.elem (.static "IceConvoys" n "[I") (.int 0)) (.int x)).before (aB b) s = true) (h4 : (Cond.eq (.elem (.static "IceConvoys" n "[I") (.int 1)) (.int y)).before (aB b) s = true) (h5 : (Cond.eq (.elem (.static "IceConvoys" n "[I") (.int 2)) (.int z)).before (aB b) s = true) :
    ∃ t : Nat, va_Z "IceConvoys" n "[I" (.ref t) A s s.heap ∧ va_T .int t 3 (fun j => .int (([x, y, z] : List Int32).getD j 0)) A s s.heap := by
  obtain ⟨t, e, hT⟩ := va_Tof (N := 3) (f := fun j => .int (([x, y, z] : List Int32).getD j 0)) (by decide) h1 (eqi h2) (fun j hj => by
    match j, hj with
    | 0, _ => exact eqi h3
    | 1, _ => exact eqi h4
    | 2, _ => exact eqi h5
    | n + 3, h => exact absurd h (by omega)) hA
  exact ⟨t, va_Zof hl hini e hA, hT⟩
theorem lw_KI {l : Launch} {L : Nat} {xs : Nat → Int32} (hflags : l.flags = flags0) (hts : ∀ w ∈ lw_tbl, w.before (aB b) s = true) (hX : va_X b L xs s s.heap) (hbl : b < s.heap.size) (hgv : lwG.before (aB b) s = true) : ∃ (D : va_G) (ar : Nat → ClassId), KI (l, s.heap.size, s.heap, D, ar, (b, L, xs)) s := by
  have hs := flat_of_before _ hgv
  have hg := lw_gW hts
  have hA : ∀ a : Nat, a < s.heap.size → ¬ s.heap.size ≤ a := fun a h q => absurd h (Nat.not_lt.mpr q)
  have hK := kn_ex hts
  have hR := ar_ex hts
  refine ⟨(fun c => Classical.choose (hK c), fun c => Classical.choose (Classical.choose_spec (hK c))), fun k => Classical.choose (hR k), ?_⟩
  have w : ∀ (k : Nat) {c : Cond}, lw_tbl[k]? = some c → c.before (aB b) s = true := fun k c h => hts _ (List.mem_of_getElem? h)
  have k6 := Classical.choose_spec (Classical.choose_spec (hK 8)) _ rfl
  have k7 := Classical.choose_spec (Classical.choose_spec (hK 9)) _ rfl
  have str : ∀ (C : String) (cC : ClassId), s.vm.findClass C = some cC → ∀ (k : Nat) (tx : String), (Cond.stringRef C k tx).before (aB b) s = true → ∃ sa : Nat, vk_R C k tx sa s := by
    intro C cC hC k tx h
    obtain ⟨_, _, _, a, -, -, -, -, -, e⟩ := Cond.stringRef_spec hC h
    exact ⟨a, vk_R.of h e⟩
  refine ⟨fun c q hq => Classical.choose_spec (Classical.choose_spec (hK c)) q hq, fun k h1 h2 => Classical.choose_spec (hR k) h1 h2, ⟨va_AO.of (w 98 (by decide +kernel)), va_AO.of (w 96 (by decide +kernel)), va_AO.of (w 100 (by decide +kernel)), va_AO.of (w 210 (by decide +kernel))⟩, ⟨?_, ?_⟩, ⟨?_, ?_⟩, ?_, ?_, ⟨?_, ⟨hX, hbl⟩, ?_⟩, ?_⟩
  · exact lw_set (x := -40) (y := 0) (z := 1) hA (w 391 (by decide +kernel)) (w 53 (by decide +kernel)) (hs _ (by decide +kernel)) (hs _ (by decide +kernel)) (hs _ (by decide +kernel)) (hs _ (by decide +kernel)) (hs _ (by decide +kernel))
  · exact lw_set (x := 10) (y := 100) (z := 14) hA (w 393 (by decide +kernel)) (w 53 (by decide +kernel)) (hs _ (by decide +kernel)) (hs _ (by decide +kernel)) (hs _ (by decide +kernel)) (hs _ (by decide +kernel)) (hs _ (by decide +kernel))
  · exact vx_Zqof (w 421 (by decide +kernel)) (w 62 (by decide +kernel)) (hs _ (by decide +kernel)) hA
  · exact vx_Zqof (w 423 (by decide +kernel)) (w 62 (by decide +kernel)) (hs _ (by decide +kernel)) hA
  · have hall : ∀ q ∈ gstr, q.1 = RX6 ∧ Cond.stringRef q.1 q.2.1 q.2.2 ∈ lw_tbl := by decide +kernel
    intro q hq
    obtain ⟨e, h⟩ := hall q hq
    exact str q.1 _ (by rw [e]; exact k6.2.1) q.2.1 q.2.2 (hts _ h)
  · intro c hc
    obtain ⟨h1, h2⟩ := List.mem_filter.mp hc
    rcases gk_cases h2 with ⟨a, i, x, h, rfl⟩ | ⟨C, T, rfl⟩ | ⟨x, rfl⟩ <;> exact va_Nw.of rfl (hts _ h1)
  · obtain ⟨adK, adV, h1, h2⟩ := vk_Sof (N := 1) (tm := fun _ => Term.string "IceConvoysModel" 237) (len := [6]) (byt := [[100, 115, 114, 116, 106, 112]]) (s := s) (args := aB b) (A := fun q => s.heap.size ≤ q) (by decide) (fun _ _ => hs _ (by decide +kernel)) (fun _ _ => hs _ (by decide +kernel)) (fun _ _ => hs _ (by decide +kernel)) (fun i hi => by
        cases (show i = 0 by omega)
        exact hs _ (by decide +kernel)) (fun i hi j hj => by
        cases (show i = 0 by omega)
        have hj : j < 6 := hj
        match j, hj with
        | 0, _ => exact hs _ (by decide +kernel)
        | 1, _ => exact hs _ (by decide +kernel)
        | 2, _ => exact hs _ (by decide +kernel)
        | 3, _ => exact hs _ (by decide +kernel)
        | 4, _ => exact hs _ (by decide +kernel)
        | 5, _ => exact hs _ (by decide +kernel)
        | n + 6, h => exact absurd h (by omega)) (fun i j hi hj hne => absurd (show i = j by omega) hne) hA
    have e0 := h2 0 (by decide)
    refine ⟨adK, adV, vk_R.of (A := aB b) (w 1427 (by decide +kernel)) e0, h1, va_Zof (w 1441 (by decide +kernel)) (w 70 (by decide +kernel)) (eqi (hs _ (by decide +kernel))) hA⟩
  · have hall : ∀ a ∈ gEx, ∀ c ∈ gEx, a ≠ c → Cond.not (.castable a c) ∈ flatC lwG := by decide +kernel
    exact fun a ha c hc hne => va_Nc.of (hs _ (hall a ha c hc hne))
  · show (!l.flags.contains noTraceFlag) = false
    rw [hflags]
    decide +kernel
end START

