/-! what the premises say where the law begins -/
section START
variable {s : State} {b : Nat}
abbrev aB (b : Nat) : Array Value := #[Value.ref b]
theorem lw_gW (hts : ∀ w ∈ lw_tbl, w.before (aB b) s = true) : ∀ w ∈ gW, w.before (aB b) s = true := fun w hw => hts w (List.mem_filter.mp hw).1
/-- each class is known -/
theorem kn_ex (hts : ∀ w ∈ lw_tbl, w.before (aB b) s = true) : ∀ c : Nat, ∃ (cC : ClassId) (iS : Nat → Nat), ∀ q, vwCl[c]? = some q → u_Kn s q.1 q.2.1 q.2.2 cC iS := by
  have hg := lw_gW hts
  have one : ∀ {C : String} {T : u_T} {N n : Nat}, (∀ w ∈ u_ws C T N, w ∈ gW) → Cond.instantiable C n ∈ gW → ∃ (cC : ClassId) (iS : Nat → Nat), ∀ q, (some (C, T, N) : Option vw_C) = some q → u_Kn s q.1 q.2.1 q.2.2 cC iS := by
    intro C T N n h1 h2
    obtain ⟨cC, iS, h⟩ := u_known (ws := gW) hg h1 (hg _ h2)
    exact ⟨cC, iS, fun q hq => by cases hq; exact h⟩
  intro c
  match c with
  | 0 => exact one inJ0 new_J0
  | 1 => exact one inJx00060 new_Jx00060
  | 2 => exact one inX0 new_X0
  | 3 => exact one inX1 new_X1
  | 4 => exact one inX2 new_X2
  | 5 => exact one inX3 new_X3
  | 6 => exact one inX4 new_X4
  | 7 => exact one inX5 new_X5
  | 8 => exact one inX6 new_X6
  | 9 => exact one inJ4 new_J4
  | n + 10 => exact ⟨0, fun _ => 0, fun q hq => by
      rw [List.getElem?_eq_none (by show 10 ≤ n + 10; omega)] at hq
      cases hq⟩
theorem ar_prim {ty : FieldType} (h : (Cond.arrayClass ty).before (aB b) s = true) : ∃ cA, ArrOfT s cA ty ∧ s.vm.findClass ("[" ++ ty.toString) = some cA := by
  obtain ⟨c, k, comp, h1, h2, h3⟩ := Cond.arrayClass_spec h
  exact ⟨c, fun n z => ⟨fun k' => (fun e => nomatch e), k, h2, comp, h3⟩, h1⟩
theorem ar_obj {C : String} (h : (Cond.arrayOver (.object C)).before (aB b) s = true) : ∃ cA, ArrOfT s cA (.object C) ∧ va_RA s cA (.object C) := by
  obtain ⟨comp, c, k, h1, h2, h3, h4, h5⟩ := Cond.arrayOver_spec h
  exact ⟨c, fun n z => ⟨fun k' => (fun e => nomatch e), k, h3, comp, h4⟩, k, comp, h3, h4, h1, h5⟩
theorem ar_ex (hts : ∀ w ∈ lw_tbl, w.before (aB b) s = true) : ∀ k : Nat, ∃ cA : ClassId, 20 ≤ k → k < 28 → ArrOfT s cA (gty k) ∧ va_RA s cA (gty k) := by
  have hg := lw_gW hts
  have oA : ∀ (C : String) (k : Nat), lw_tbl[k]? = some (Cond.arrayOver (.object C)) → ∃ cA, ArrOfT s cA (.object C) ∧ va_RA s cA (.object C) := fun C k h => ar_obj (hts _ (List.mem_of_getElem? h))
  intro k
  match k with
  | 20 => obtain ⟨c, h1, h2⟩ := ar_prim (hg _ arr_int); exact ⟨c, fun _ _ => ⟨h1, h2⟩⟩
  | 21 => obtain ⟨c, h1, h2⟩ := ar_prim (hg _ arr_char); exact ⟨c, fun _ _ => ⟨h1, h2⟩⟩
  | 22 => obtain ⟨c, h1, h2⟩ := ar_prim (hg _ arr_long); exact ⟨c, fun _ _ => ⟨h1, h2⟩⟩
  | 23 => obtain ⟨c, h1, h2⟩ := ar_prim (hg _ arr_byte); exact ⟨c, fun _ _ => ⟨h1, h2⟩⟩
  | 24 => obtain ⟨c, h⟩ := oA RX5 60 (by decide +kernel); exact ⟨c, fun _ _ => h⟩
  | 25 => obtain ⟨c, h⟩ := oA RX2 58 (by decide +kernel); exact ⟨c, fun _ _ => h⟩
  | 26 => obtain ⟨c, h⟩ := oA RX0 62 (by decide +kernel); exact ⟨c, fun _ _ => h⟩
  | 27 => obtain ⟨c, h⟩ := oA RX4 172 (by decide +kernel); exact ⟨c, fun _ _ => h⟩
  | 0 | 1 | 2 | 3 | 4 | 5 | 6 | 7 | 8 | 9 | 10 | 11 | 12 | 13 | 14 | 15 | 16 | 17 | 18 | 19 => exact ⟨0, fun h => absurd h (by decide)⟩
  | n + 28 => exact ⟨0, fun _ h => absurd h (by omega)⟩
theorem eqi {A : Array Value} {t : Term} {v : Int32} (h : (Cond.eq t (.int v)).before A s = true) : t.eval A s none [] s = some (.int v) := Cond.eq_int h rfl
theorem lw_set {n : String} {x y z : Int32} {A : Nat → Prop} (hA : ∀ a : Nat, a < s.heap.size → ¬ A a) (hl : (Cond.laysStatic "IceConvoys" n "[I").before (aB b) s = true) (hini : (Cond.initialized "IceConvoys").before (aB b) s = true)
    (h1 : (Cond.arrayOf (.static "IceConvoys" n "[I") .int).before (aB b) s = true) (h2 : (Cond.eq (.length (.static "IceConvoys" n "[I")) (.int 3)).before (aB b) s = true)
    (h3 : (Cond.eq (.elem (.static "IceConvoys" n "[I") (.int 0)) (.int x)).before (aB b) s = true) (h4 : (Cond.eq (.elem (.static "IceConvoys" n "[I") (.int 1)) (.int y)).before (aB b) s = true) (h5 : (Cond.eq (.elem (.static "IceConvoys" n "[I") (.int 2)) (.int z)).before (aB b) s = true) :
    ∃ t : Nat, va_Z "IceConvoys" n "[I" (.ref t) A s s.heap ∧ va_T .int t 3 (fun j => .int (([x, y, z] : List Int32).getD j 0)) A s s.heap := by
  obtain ⟨t, e, hT⟩ := va_Tof (N := 3) (f := fun j => .int (([x, y, z] : List Int32).getD j 0)) (by decide) h1 (eqi h2) (fun j hj => by
    match j, hj with
    | 0, _ => exact eqi h3
    | 1, _ => exact eqi h4
    | 2, _ => exact eqi h5
    | n + 3, h => exact absurd h (by omega)) hA
  exact ⟨t, va_Zof hl hini e hA, hT⟩
theorem lw_dig {n : String} {f : Nat → Int32} {A : Nat → Prop} (hA : ∀ a : Nat, a < s.heap.size → ¬ A a) (hl : (Cond.laysStatic "java/lang/Integer" n "[B").before (aB b) s = true) (hini : (Cond.initialized "java/lang/Integer").before (aB b) s = true) (h1 : (Cond.arrayOf (.static "java/lang/Integer" n "[B") .byte).before (aB b) s = true) (h2 : (Cond.eq (.length (.static "java/lang/Integer" n "[B")) (.int 100)).before (aB b) s = true) (h3 : ∀ j, j < 100 → (Cond.eq (.elem (.static "java/lang/Integer" n "[B") (.int (Int32.ofNat j))) (.int (f j))).before (aB b) s = true) : ∃ t : Nat, va_Z "java/lang/Integer" n "[B" (.ref t) A s s.heap ∧ va_T .byte t 100 (fun j => .int (f j)) A s s.heap := by
  obtain ⟨t, e, hT⟩ := va_Tof (N := 100) (f := fun j => .int (f j)) (by decide) h1 (eqi h2) (fun j hj => eqi (h3 j hj)) hA
  exact ⟨t, va_Zof hl hini e hA, hT⟩
theorem lw_str1 {k : Nat} {tx : String} {bs : List Int32} (hA : ∀ a : Nat, a < s.heap.size → ¬ s.heap.size ≤ a) (hb : bs.length < 2 ^ 31) (h0 : (Cond.stringRef RL k tx).before (aB b) s = true) (h1 : (Cond.exactly (.string RL k) "java/lang/String").before (aB b) s = true) (h2 : (Cond.eq (.field (.string RL k) "java/lang/String" "coder" "B") (.int 0)).before (aB b) s = true) (h3 : (Cond.arrayOf (.field (.string RL k) "java/lang/String" "value" "[B") .byte).before (aB b) s = true) (h4 : (Cond.eq (.length (.field (.string RL k) "java/lang/String" "value" "[B")) (.int (Int32.ofNat bs.length))).before (aB b) s = true)
    (h5 : ∀ j, j < bs.length → (Cond.eq (.elem (.field (.string RL k) "java/lang/String" "value" "[B") (.int (Int32.ofNat j))) (.int (bs.getD j 0))).before (aB b) s = true) : ∃ ka va : Nat, vk_R RL k tx ka s ∧ vk_S 1 [bs.length] [bs] (fun _ => ka) (fun _ => va) (fun q => s.heap.size ≤ q) s s.heap := by
  obtain ⟨adK, adV, q1, q2⟩ := vk_Sof (N := 1) (tm := fun _ => Term.string RL k) (len := [bs.length]) (byt := [bs]) (s := s) (args := aB b) (A := fun q => s.heap.size ≤ q) (fun i hi => by
    cases (show i = 0 by omega)
    exact hb) (fun _ _ => h1) (fun _ _ => h2) (fun _ _ => h3) (fun i hi => by
    cases (show i = 0 by omega)
    exact h4) (fun i hi j hj => by
    cases (show i = 0 by omega)
    exact h5 j hj) (fun i j hi hj hne => absurd (show i = j by omega) hne) hA
  refine ⟨adK 0, adV 0, vk_R.of (A := aB b) h0 (q2 0 (by decide)), fun i hi => ?_, fun i j hi hj _ => by omega⟩
  cases (show i = 0 by omega)
  exact q1.1 0 (by decide)
theorem lw_strs (hA : ∀ a : Nat, a < s.heap.size → ¬ s.heap.size ≤ a) (hts : ∀ w ∈ lw_tbl, w.before (aB b) s = true) (hs : ∀ c ∈ flatC lwG, c.before (aB b) s = true) : ∀ i : Nat, ∃ ka va : Nat, i < 4 → vk_R RL (gsl.getD i (0, "")).1 (gsl.getD i (0, "")).2 ka s ∧ vk_S 1 [(gsb i).length] [gsb i] (fun _ => ka) (fun _ => va) (fun q => s.heap.size ≤ q) s s.heap := by
  have w : ∀ (k : Nat) {c : Cond}, lw_tbl[k]? = some c → c.before (aB b) s = true := fun k c h => hts _ (List.mem_of_getElem? h)
  intro i
  match i with
  | 0 =>
    obtain ⟨ka, va, h⟩ := lw_str1 (s := s) (b := b) (k := 281) (tx := "t-") (bs := [116, 45]) hA (by decide) (w 1019 (by decide +kernel)) (hs _ (by decide +kernel)) (hs _ (by decide +kernel)) (hs _ (by decide +kernel)) (hs _ (by decide +kernel)) (fun j hj => by
      have hj : j < 2 := hj
      match j, hj with
      | 0, _ => exact hs _ (by decide +kernel)
      | 1, _ => exact hs _ (by decide +kernel)
      | n + 2, h => exact absurd h (by omega))
    exact ⟨ka, va, fun _ => h⟩
  | 1 =>
    obtain ⟨ka, va, h⟩ := lw_str1 (s := s) (b := b) (k := 289) (tx := ";p") (bs := [59, 112]) hA (by decide) (w 1161 (by decide +kernel)) (hs _ (by decide +kernel)) (hs _ (by decide +kernel)) (hs _ (by decide +kernel)) (hs _ (by decide +kernel)) (fun j hj => by
      have hj : j < 2 := hj
      match j, hj with
      | 0, _ => exact hs _ (by decide +kernel)
      | 1, _ => exact hs _ (by decide +kernel)
      | n + 2, h => exact absurd h (by omega))
    exact ⟨ka, va, fun _ => h⟩
  | 2 =>
    obtain ⟨ka, va, h⟩ := lw_str1 (s := s) (b := b) (k := 291) (tx := ";d") (bs := [59, 100]) hA (by decide) (w 1162 (by decide +kernel)) (hs _ (by decide +kernel)) (hs _ (by decide +kernel)) (hs _ (by decide +kernel)) (hs _ (by decide +kernel)) (fun j hj => by
      have hj : j < 2 := hj
      match j, hj with
      | 0, _ => exact hs _ (by decide +kernel)
      | 1, _ => exact hs _ (by decide +kernel)
      | n + 2, h => exact absurd h (by omega))
    exact ⟨ka, va, fun _ => h⟩
  | 3 =>
    obtain ⟨ka, va, h⟩ := lw_str1 (s := s) (b := b) (k := 293) (tx := ";r0") (bs := [59, 114, 48]) hA (by decide) (w 1163 (by decide +kernel)) (hs _ (by decide +kernel)) (hs _ (by decide +kernel)) (hs _ (by decide +kernel)) (hs _ (by decide +kernel)) (fun j hj => by
      have hj : j < 3 := hj
      match j, hj with
      | 0, _ => exact hs _ (by decide +kernel)
      | 1, _ => exact hs _ (by decide +kernel)
      | 2, _ => exact hs _ (by decide +kernel)
      | n + 3, h => exact absurd h (by omega))
    exact ⟨ka, va, fun _ => h⟩
  | n + 4 => exact ⟨0, 0, fun h => absurd h (by omega)⟩
theorem lw_KI {l : Launch} {L : Nat} {xs : Nat → Int32} (hflags : l.flags = flags0) (hts : ∀ w ∈ lw_tbl, w.before (aB b) s = true) (hX : va_X b L xs s s.heap) (hbl : b < s.heap.size) (hgv : lwG.before (aB b) s = true) : ∃ (D : va_G) (ar : Nat → ClassId), KI (l, s.heap.size, s.heap, D, ar, (b, L, xs)) s := by
  have hs := flat_of_before _ hgv
  have hg := lw_gW hts
  have hA : ∀ a : Nat, a < s.heap.size → ¬ s.heap.size ≤ a := fun a h q => absurd h (Nat.not_lt.mpr q)
  have hK := kn_ex hts
  have hR := ar_ex hts
  have hT := lw_strs hA hts hs
  obtain ⟨fK, hfK⟩ := Classical.axiomOfChoice hT
  obtain ⟨fV, hfV⟩ := Classical.axiomOfChoice hfK
  refine ⟨(fun c => Classical.choose (hK c), fun c => Classical.choose (Classical.choose_spec (hK c))), fun k => if k < 100 then Classical.choose (hR k) else if k < 200 then fK (k - 100) else fV (k - 200), ?_⟩
  have w : ∀ (k : Nat) {c : Cond}, lw_tbl[k]? = some c → c.before (aB b) s = true := fun k c h => hts _ (List.mem_of_getElem? h)
  have k6 := Classical.choose_spec (Classical.choose_spec (hK 8)) _ rfl
  have str : ∀ (C : String) (cC : ClassId), s.vm.findClass C = some cC → ∀ (k : Nat) (tx : String), (Cond.stringRef C k tx).before (aB b) s = true → ∃ sa : Nat, vk_R C k tx sa s := by
    intro C cC hC k tx h
    obtain ⟨_, _, _, a, -, -, -, -, -, e⟩ := Cond.stringRef_spec hC h
    exact ⟨a, vk_R.of h e⟩
  refine ⟨fun c q hq => Classical.choose_spec (Classical.choose_spec (hK c)) q hq, fun k h1 h2 => ?_, ⟨va_AO.of (w 60 (by decide +kernel)), va_AO.of (w 58 (by decide +kernel)), va_AO.of (w 62 (by decide +kernel)), va_AO.of (w 172 (by decide +kernel))⟩, ⟨?_, ?_⟩, ⟨?_, ?_⟩, ?_, ?_, ⟨⟨fun i hi => ?_, ?_, ?_, ?_, ?_⟩, ⟨hX, hbl⟩, ?_⟩, ?_⟩
  · show ArrOfT s (if k < 100 then Classical.choose (hR k) else if k < 200 then fK (k - 100) else fV (k - 200)) (gty k) ∧ va_RA s (if k < 100 then Classical.choose (hR k) else if k < 200 then fK (k - 100) else fV (k - 200)) (gty k)
    rw [if_pos (by omega)]
    exact Classical.choose_spec (hR k) h1 h2
  · exact lw_set (x := -40) (y := 0) (z := 1) hA (w 264 (by decide +kernel)) (w 9 (by decide +kernel)) (hs _ (by decide +kernel)) (hs _ (by decide +kernel)) (hs _ (by decide +kernel)) (hs _ (by decide +kernel)) (hs _ (by decide +kernel))
  · exact lw_set (x := 10) (y := 100) (z := 14) hA (w 266 (by decide +kernel)) (w 9 (by decide +kernel)) (hs _ (by decide +kernel)) (hs _ (by decide +kernel)) (hs _ (by decide +kernel)) (hs _ (by decide +kernel)) (hs _ (by decide +kernel))
  · exact vx_Zqof (w 294 (by decide +kernel)) (w 15 (by decide +kernel)) (hs _ (by decide +kernel)) hA
  · exact vx_Zqof (w 296 (by decide +kernel)) (w 15 (by decide +kernel)) (hs _ (by decide +kernel)) hA
  · have hall : ∀ q ∈ gstr, q.1 = RX6 ∧ Cond.stringRef q.1 q.2.1 q.2.2 ∈ lw_tbl := by decide +kernel
    intro q hq
    obtain ⟨e, h⟩ := hall q hq
    exact str q.1 _ (by rw [e]; exact k6.2.1) q.2.1 q.2.2 (hts _ h)
  · intro c hc
    obtain ⟨h1, h2⟩ := List.mem_filter.mp hc
    rcases gk_cases h2 with ⟨a, i, x, h, rfl⟩ | ⟨C, T, rfl⟩ | ⟨x, rfl⟩ <;> exact va_Nw.of rfl (hts _ h1)
  · have e1 : (if 100 + i < 100 then Classical.choose (hR (100 + i)) else if 100 + i < 200 then fK (100 + i - 100) else fV (100 + i - 200)) = fK i := by
      rw [if_neg (by omega), if_pos (by omega), Nat.add_sub_cancel_left]
    have e2 : (if 200 + i < 100 then Classical.choose (hR (200 + i)) else if 200 + i < 200 then fK (200 + i - 100) else fV (200 + i - 200)) = fV i := by
      rw [if_neg (by omega), if_neg (by omega), Nat.add_sub_cancel_left]
    show vk_R RL (gsl.getD i (0, "")).1 (gsl.getD i (0, "")).2 (if 100 + i < 100 then Classical.choose (hR (100 + i)) else if 100 + i < 200 then fK (100 + i - 100) else fV (100 + i - 200)) s ∧ vk_S 1 [(gsb i).length] [gsb i] (fun _ => (if 100 + i < 100 then Classical.choose (hR (100 + i)) else if 100 + i < 200 then fK (100 + i - 100) else fV (100 + i - 200))) (fun _ => (if 200 + i < 100 then Classical.choose (hR (200 + i)) else if 200 + i < 200 then fK (200 + i - 100) else fV (200 + i - 200))) (fun q => s.heap.size ≤ q) s s.heap
    rw [e1, e2]
    exact hfV i hi
  · exact va_Zof (w 997 (by decide +kernel)) (w 23 (by decide +kernel)) (eqi (hs _ (by decide +kernel))) hA
  · have hall := lw_ones
    exact lw_dig (f := fun j => nI (48 + j % 10)) hA (w 1150 (by decide +kernel)) (w 39 (by decide +kernel)) (hs _ (by decide +kernel)) (hs _ (by decide +kernel)) (fun j hj => hs _ (List.mem_of_getElem? (hall j hj)))
  · have hall := lw_tens
    exact lw_dig (f := fun j => nI (48 + j / 10)) hA (w 1152 (by decide +kernel)) (w 39 (by decide +kernel)) (hs _ (by decide +kernel)) (hs _ (by decide +kernel)) (fun j hj => hs _ (List.mem_of_getElem? (hall j hj)))
  · obtain ⟨v, hv, hr⟩ := Cond.isRef_spec (hs (.isRef (.static "jdk/internal/util/Preconditions" "SIOOBE_FORMATTER" "Ljava/util/function/BiFunction;")) (by decide +kernel))
    refine ⟨v, ?_, va_Zof (w 1080 (by decide +kernel)) (w 37 (by decide +kernel)) hv hA⟩
    cases v with
    | null => exact Or.inl rfl
    | ref a => exact Or.inr ⟨a, rfl⟩
    | _ => cases hr
  · have hall : ∀ a ∈ gEx, ∀ c ∈ gEx5, a ≠ c → Cond.not (.castable a c) ∈ flatC lwG := by decide +kernel
    exact fun a ha c hc hne => va_Nc.of (hs _ (hall a ha c hc hne))
  · show (!l.flags.contains noTraceFlag) = false
    rw [hflags]
    decide +kernel
end START
