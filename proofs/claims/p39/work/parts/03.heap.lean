/-! THE HEAP AS TWO TABLES (of my own): sh says of each address its kind and its length, V what lies in it by place. G: a frame over such a heap comes to an end that P allows. MC: a method's contract. -/
/-- (launch, first address of the claim's own, the heap at the start, classes and slots, array classes, the script: where, how long, what) -/
abbrev gE : Type := Launch × Nat × Heap × va_G × (Nat → ClassId) × (Nat × Nat × (Nat → Int32))
/-- (bytes, locals, own class, answer, table of handlers, name, room) -/
abbrev gM : Type := ByteArray × Nat × String × Option FieldType × List ExceptionTableEntry × String × Room
/-- (name, bytes, locals, answer, room) -/
abbrev gY : Type := MethodName × ByteArray × Nat × Option FieldType × Room
abbrev Sh : Type := Nat → Nat × Nat
abbrev Vl : Type := Nat → Nat → Value
abbrev gP : Type := (Option Value ⊕ String) → Sh → Nat → Vl → Prop
def gN (E : gE) : Nat → Prop := fun q => E.2.1 ≤ q
def gty : Nat → FieldType
  | 20 => .int
  | 21 => .char
  | 22 => .long
  | 23 => .byte
  | 24 => .object RX5
  | 25 => .object RX2
  | 26 => .object RX0
  | _ => .object RX4
def gW : List Cond := lw_tbl.filter goodWord
def gk (w : Cond) : Bool := match w with
  | .methodLinkNest .. => true
  | .castable .. => true
  | .declares .. => true
  | _ => false
def gNw : List Cond := lw_tbl.filter gk
theorem gW_at {w : Cond} (k : Nat) (h : lw_tbl[k]? = some w) (hg : goodWord w = true) : w ∈ gW := List.mem_filter.mpr ⟨List.mem_of_getElem? h, hg⟩
theorem gNw_at {w : Cond} (k : Nat) (h : lw_tbl[k]? = some w) (hg : gk w = true) : w ∈ gNw := List.mem_filter.mpr ⟨List.mem_of_getElem? h, hg⟩
theorem gW_good {w : Cond} (h : w ∈ gW) : (w.onTables && w.keeps) = true ∨ ∃ ty, w = .arrayClass ty := good_of_word (List.mem_filter.mp h).2
theorem gIn_nil : GoodIn gW [] := fun _ h => nomatch h
theorem gIn_cons {w : Cond} {ws : List Cond} (h : w ∈ gW) (t : GoodIn gW ws) : GoodIn gW (w :: ws) := fun x hx => by
  rcases List.mem_cons.mp hx with rfl | hx
  · exact ⟨h, gW_good h⟩
  · exact t x hx
theorem gIn_self : GoodIn gW gW := fun _ h => ⟨h, gW_good h⟩
theorem gIn_V {own C : String} {idx n : Nat} {y : MethodName} {cc : ByteArray} {ret : Option FieldType} (h1 : Cond.methodLink own idx y ∈ gW) (h2 : Cond.instanceMethod y ∈ gW) (h3 : Cond.selects C y y ∈ gW) (h4 : Cond.initialized C ∈ gW) (h5 : Cond.code y cc n ret ∈ gW) : GoodIn gW (wsV own idx C y (Cond.code y cc n ret :: gW)) :=
  gIn_cons h1 (gIn_cons h2 (gIn_cons h3 (gIn_cons h4 (gIn_cons h5 gIn_self))))
theorem gIn_S {own : String} {idx n : Nat} {y : MethodName} {cc : ByteArray} {ret : Option FieldType} (h1 : Cond.methodLink own idx y ∈ gW) (h2 : Cond.static y ∈ gW) (h4 : Cond.initialized y.cls ∈ gW) (h5 : Cond.code y cc n ret ∈ gW) : GoodIn gW (va_wsS own idx y (Cond.code y cc n ret :: gW)) :=
  gIn_cons h1 (gIn_cons h2 (gIn_cons h4 (gIn_cons h5 gIn_self)))
theorem gIn_I {n : Nat} {y : MethodName} {cc : ByteArray} {ret : Option FieldType} (h5 : Cond.code y cc n ret ∈ gW) : GoodIn gW (Cond.code y cc n ret :: gW) := gIn_cons h5 gIn_self
/-- the String constants of the throws: class, place, text -/
def gstr : List (String × Nat × String) := [(RX6, 53, "no such setting, or its value is out of range"), (RX6, 273, "the number of days is out of range"), (RX6, 180, "the gap is out of range"), (RX6, 185, "there are 4 convoys"), (RX6, 135, "no such row"), (RX6, 137, "the kind, the weight or the axles are out of range"), (RX6, 148, "the row is full"), (RX6, 151, "the row is for the other kind"), (RX6, 200, "no such convoy, row or place"), (RX6, 170, "no truck is at the place"), (RX6, 202, "the truck may not join"), (RX6, 77, "no such mile"), (RX6, 214, "no such convoy"), (RX6, 216, "the convoy may not start"), (RX6, 225, "the convoy may not roll"), (RX6, 322, "nothing was refused"), (RX6, 119, "no such number of a mile"), (RX6, 348, "no such account"), (RX6, 70, "no such setting"), (RX6, 103, "the mile was never drilled"), (RX6, 262, "no truck is at the mile"), (RX6, 168, "no such row or place"), (RX6, 172, "no such number of a truck"), (RX6, 244, "no such number of a convoy"), (RX6, 250, "no such convoy or place"), (RX6, 370, "no tonnes came"), (RX6, 373, "no change can be undone"), (RX6, 279, "the number of tonnes is out of range"), (RX6, 282, "the ice would not bear that within 90 days"), (RX6, 299, "the input contains 60 characters"), (RX6, 309, "the text has an error"), (RX6, 318, "an order of the text cannot be carried out"), (RX6, 320, "an order of the text is refused")]
/-- .. and of the law's orders -/
def gsb : Nat → List Int32
  | 0 => [116, 45]
  | 1 => [59, 112]
  | 2 => [59, 100]
  | _ => [59, 114, 48]
def gsl : List (Nat × String) := [(281, "t-"), (289, ";p"), (291, ";d"), (293, ";r0")]
/-- the exceptions of the class, and of them those that are no kind of another -/
def gEx : List String := ["java/lang/IllegalArgumentException", "java/lang/IndexOutOfBoundsException", "java/util/NoSuchElementException", "java/lang/UnsupportedOperationException", "java/lang/IllegalStateException", "java/lang/ArithmeticException"]
/-- .. those of them that the law catches -/
def gEx5 : List String := ["java/lang/IllegalArgumentException", "java/lang/IndexOutOfBoundsException", "java/util/NoSuchElementException", "java/lang/UnsupportedOperationException", "java/lang/IllegalStateException"]
/-- what the tables and the heap below the claim's own say, wherever a method begins -/
def KI (E : gE) (U : State) : Prop :=
  (∀ (c : Nat) (q : vw_C), vwCl[c]? = some q → u_Kn U q.1 q.2.1 q.2.2 (E.2.2.2.1.1 c) (E.2.2.2.1.2 c)) ∧
  (∀ k : Nat, 20 ≤ k → k < 28 → ArrOfT U (E.2.2.2.2.1 k) (gty k) ∧ va_RA U (E.2.2.2.2.1 k) (gty k)) ∧
  (va_AO RX5 U ∧ va_AO RX2 U ∧ va_AO RX0 U ∧ va_AO RX4 U) ∧
  ((∃ t : Nat, va_Z "IceConvoys" "LOWEST_SETTING" "[I" (.ref t) (gN E) U E.2.2.1 ∧ va_T .int t 3 (fun j => .int (([-40, 0, 1] : List Int32).getD j 0)) (gN E) U E.2.2.1) ∧
   (∃ t : Nat, va_Z "IceConvoys" "HIGHEST_SETTING" "[I" (.ref t) (gN E) U E.2.2.1 ∧ va_T .int t 3 (fun j => .int (([10, 100, 14] : List Int32).getD j 0)) (gN E) U E.2.2.1)) ∧
  (vx_Zq Bundle.tN "UNASSIGNED_STACK" Bundle.steD (gN E) U E.2.2.1 ∧ vx_Zq Bundle.tN "SUPPRESSED_SENTINEL" Bundle.listD (gN E) U E.2.2.1) ∧
  (∀ q ∈ gstr, ∃ sa : Nat, vk_R q.1 q.2.1 q.2.2 sa U) ∧
  (∀ w ∈ gNw, va_Nw w U) ∧
  (((∀ i, i < 4 → vk_R RL (gsl.getD i (0, "")).1 (gsl.getD i (0, "")).2 (E.2.2.2.2.1 (100 + i)) U ∧ vk_S 1 [(gsb i).length] [gsb i] (fun _ => E.2.2.2.2.1 (100 + i)) (fun _ => E.2.2.2.2.1 (200 + i)) (gN E) U E.2.2.1) ∧ va_Z "java/lang/String" "COMPACT_STRINGS" "Z" (.int 1) (gN E) U E.2.2.1 ∧
     (∃ t : Nat, va_Z "java/lang/Integer" "DigitOnes" "[B" (.ref t) (gN E) U E.2.2.1 ∧ va_T .byte t 100 (fun j => .int (nI (48 + j % 10))) (gN E) U E.2.2.1) ∧
     (∃ t : Nat, va_Z "java/lang/Integer" "DigitTens" "[B" (.ref t) (gN E) U E.2.2.1 ∧ va_T .byte t 100 (fun j => .int (nI (48 + j / 10))) (gN E) U E.2.2.1) ∧
     (∃ v : Value, (v = .null ∨ ∃ a, v = .ref a) ∧ va_Z "jdk/internal/util/Preconditions" "SIOOBE_FORMATTER" "Ljava/util/function/BiFunction;" v (gN E) U E.2.2.1)) ∧
   (va_X E.2.2.2.2.2.1 E.2.2.2.2.2.2.1 E.2.2.2.2.2.2.2 U E.2.2.1 ∧ E.2.2.2.2.2.1 < E.2.1) ∧ ∀ a ∈ gEx, ∀ b ∈ gEx5, a ≠ b → va_Nc a b U) ∧
  E.1.stackTraces = false
theorem gk_cases {w : Cond} (h : gk w = true) : (∃ a i x h, w = .methodLinkNest a i x h) ∨ (∃ C T, w = .castable C T) ∨ ∃ x, w = .declares x := by
  cases w <;> first | exact Or.inl ⟨_, _, _, _, rfl⟩ | exact Or.inr (Or.inl ⟨_, _, rfl⟩) | exact Or.inr (Or.inr ⟨_, rfl⟩) | cases h
theorem KI.of {E : gE} {s U : State} (hal : s.vm.Alike U.vm) (hR : ∀ q : String × Nat × String, ∀ sa : Nat, vk_R q.1 q.2.1 q.2.2 sa s → vk_R q.1 q.2.1 q.2.2 sa U) (hN : ∀ w ∈ gNw, va_Nw w s → va_Nw w U) (h : KI E s) : KI E U := by
  obtain ⟨h1, h2, ⟨a1, a2, a3, a4⟩, ⟨⟨t1, z1, y1⟩, ⟨t2, z2, y2⟩⟩, ⟨u1, u2⟩, h6, h7, ⟨⟨b1, b3, ⟨t3, z3, y3⟩, ⟨t4, z4, y4⟩, v5, w5, z5⟩, ⟨b4, b5⟩, b6⟩, h9⟩ := h
  exact ⟨fun c q hq => u_Kn_moved hal (h1 c q hq), fun k hk hk2 => ⟨arrOfT_moved hal (h2 k hk hk2).1, (h2 k hk hk2).2.moved hal⟩, ⟨a1.moved hal, a2.moved hal, a3.moved hal, a4.moved hal⟩,
    ⟨⟨t1, z1.moved hal, y1.moved hal⟩, ⟨t2, z2.moved hal, y2.moved hal⟩⟩, ⟨u1.moved hal, u2.moved hal⟩, fun q hq => by obtain ⟨sa, e⟩ := h6 q hq; exact ⟨sa, hR q sa e⟩, fun w hw => hN w hw (h7 w hw),
    ⟨⟨fun i hi => ⟨hR (RL, (gsl.getD i (0, "")).1, (gsl.getD i (0, "")).2) _ (b1 i hi).1, (b1 i hi).2.moved hal⟩, b3.moved hal, ⟨t3, z3.moved hal, y3.moved hal⟩, ⟨t4, z4.moved hal, y4.moved hal⟩, v5, w5, z5.moved hal⟩, ⟨b4.moved hal, b5⟩, fun a ha b hb hab => (b6 a ha b hb hab).moved hal⟩, h9⟩
theorem KI.warm {E : gE} {s U : State} (hW : s.WarmedH U.vm) (h : KI E s) : KI E U := KI.of hW.alike (fun _ _ e => vk_R.warm hW e) (fun w hw e => by
  rcases gk_cases (List.mem_filter.mp hw).2 with ⟨a, i, x, h, rfl⟩ | ⟨C, T, rfl⟩ | ⟨x, rfl⟩
  · exact va_Nw.warmM hW e
  · exact va_Nw.warmC hW e
  · exact va_Nw.warmD hW e) h
theorem KI.same {E : gE} {s U : State} (hv : U.vm = s.vm) (h : KI E s) : KI E U := KI.of (by rw [hv]; exact Vm.Alike.refl _) (fun _ _ e => vk_R.same hv e) (fun w hw e => by
  rcases gk_cases (List.mem_filter.mp hw).2 with ⟨a, i, x, h, rfl⟩ | ⟨C, T, rfl⟩ | ⟨x, rfl⟩
  · exact va_Nw.same rfl hv.symm e
  · exact va_Nw.same rfl hv.symm e
  · exact va_Nw.same rfl hv.symm e) h
def hu (V : Vl) (a k : Nat) (v : Value) : Vl := fun a' => if a' = a then updV (V a) k v else V a'
def hn (V : Vl) (a : Nat) (F : Nat → Value) : Vl := fun a' => if a' = a then F else V a'
def hs (sh : Sh) (a : Nat) (t : Nat × Nat) : Sh := fun a' => if a' = a then t else sh a'
def cellAt (E : gE) (t : Nat × Nat) (a : Nat) (F : Nat → Value) (H : Heap) : Prop :=
  (t.1 < 20 → ∃ r : vw_C, vwCl[t.1 - 1]? = some r ∧ t_OB a (E.2.2.2.1.1 (t.1 - 1)) r.2.2 (E.2.2.2.1.2 (t.1 - 1)) H F) ∧ (20 ≤ t.1 → H[a]? = some (arrV (E.2.2.2.2.1 t.1) t.2 F))
def HR (E : gE) (sh : Sh) (sz : Nat) (V : Vl) (H : Heap) : Prop :=
  H.size = sz ∧ E.2.1 ≤ sz ∧ (∀ q : Nat, q < E.2.1 → H[q]? = E.2.2.1[q]?) ∧ ∀ a : Nat, (sh a).1 ≠ 0 → E.2.1 ≤ a ∧ a < sz ∧ cellAt E (sh a) a (V a) H
theorem cellAt.kept {E : gE} {t : Nat × Nat} {a : Nat} {F : Nat → Value} {H H1 : Heap} (h : cellAt E t a F H) (hq : H1[a]? = H[a]?) : cellAt E t a F H1 :=
  ⟨fun ht => by obtain ⟨r, h1, h2⟩ := h.1 ht; exact ⟨r, h1, h2.kept hq⟩, fun ht => hq.trans (h.2 ht)⟩
theorem HR.upd {E : gE} {sh : Sh} {sz : Nat} {V : Vl} {H H1 : Heap} {a k : Nat} {v : Value} (h : HR E sh sz V H) (hz : H1.size = H.size) (oq : ∀ q : Nat, q ≠ a → H1[q]? = H[q]?) (ha : E.2.1 ≤ a) (hc : cellAt E (sh a) a (updV (V a) k v) H1) : HR E sh sz (hu V a k v) H1 := by
  obtain ⟨h1, h2, h3, h4⟩ := h
  refine ⟨hz.trans h1, h2, fun q hq => (oq q (by omega)).trans (h3 q hq), fun b hb => ?_⟩
  obtain ⟨g1, g2, g3⟩ := h4 b hb
  refine ⟨g1, g2, ?_⟩
  by_cases e : b = a
  · subst e
    show cellAt E (sh b) b (if b = b then _ else _) H1
    rw [if_pos rfl]
    exact hc
  · show cellAt E (sh b) b (if b = a then _ else _) H1
    rw [if_neg e]
    exact g3.kept (oq b e)
theorem HR.new {E : gE} {sh : Sh} {sz : Nat} {V : Vl} {H H1 : Heap} {t : Nat × Nat} {F : Nat → Value} (h : HR E sh sz V H) (hz : H1.size = sz + 1) (oq : ∀ q : Nat, q < sz → H1[q]? = H[q]?) (hc : cellAt E t sz F H1) : HR E (hs sh sz t) (sz + 1) (hn V sz F) H1 := by
  obtain ⟨h1, h2, h3, h4⟩ := h
  refine ⟨hz, by omega, fun q hq => (oq q (by omega)).trans (h3 q hq), fun b hb => ?_⟩
  unfold hs at hb ⊢
  unfold hn
  by_cases e : b = sz
  · subst e
    rw [if_pos rfl, if_pos rfl]
    exact ⟨h2, by omega, hc⟩
  · rw [if_neg e] at hb
    rw [if_neg e, if_neg e]
    obtain ⟨g1, g2, g3⟩ := h4 b hb
    exact ⟨g1, by omega, g3.kept (oq b g2)⟩
theorem HR.grow {E : gE} {sh : Sh} {sz : Nat} {V : Vl} {H H1 : Heap} (h : HR E sh sz V H) (hz : sz ≤ H1.size) (oq : ∀ q : Nat, q < sz → H1[q]? = H[q]?) : HR E sh H1.size V H1 := by
  obtain ⟨h1, h2, h3, h4⟩ := h
  refine ⟨rfl, by omega, fun q hq => (oq q (by omega)).trans (h3 q hq), fun b hb => ?_⟩
  obtain ⟨g1, g2, g3⟩ := h4 b hb
  exact ⟨g1, by omega, g3.kept (oq b g2)⟩
/-! locals -/
def asc : List (Option Value) → Nat → List (Nat × Value)
  | [], _ => []
  | none :: t, i => asc t (i + 1)
  | some v :: t, i => (i, v) :: asc t (i + 1)
def lg : List (Option Value) → Nat → Option Value
  | [], _ => none
  | a :: _, 0 => a
  | _ :: t, i + 1 => lg t i
def lst : List (Option Value) → Nat → Value → List (Option Value)
  | [], _, _ => []
  | _ :: t, 0, v => some v :: t
  | a :: t, i + 1, v => a :: lst t i v
theorem asc_mem : ∀ (L : List (Option Value)) (i j : Nat) (v : Value), (j, v) ∈ asc L i ↔ ∃ k, j = i + k ∧ lg L k = some v
  | [], i, j, v => by simp [asc, lg]
  | none :: t, i, j, v => by
    rw [asc, asc_mem t (i + 1) j v]
    constructor
    · rintro ⟨k, h1, h2⟩
      exact ⟨k + 1, by omega, h2⟩
    · rintro ⟨k, h1, h2⟩
      cases k with
      | zero => cases h2
      | succ k => exact ⟨k, by omega, h2⟩
  | some w :: t, i, j, v => by
    rw [asc, List.mem_cons, asc_mem t (i + 1) j v]
    constructor
    · rintro (h | ⟨k, h1, h2⟩)
      · cases h
        exact ⟨0, rfl, rfl⟩
      · exact ⟨k + 1, by omega, h2⟩
    · rintro ⟨k, h1, h2⟩
      cases k with
      | zero =>
        left
        have : w = v := Option.some.inj h2
        rw [this, h1]
        rfl
      | succ k => exact Or.inr ⟨k, by omega, h2⟩
theorem lg_has {ls : Array Slot} {n : Nat} {L : List (Option Value)} (h : lv_has ls n (asc L 0)) {i : Nat} {v : Value} (hv : lg L i = some v) : ls[i]? = some (.val v) :=
  h.2.2 (i, v) ((asc_mem L 0 i v).mpr ⟨i, by omega, hv⟩)
theorem lg_lst_ne : ∀ (L : List (Option Value)) (i j : Nat) (v : Value), j ≠ i → lg (lst L i v) j = lg L j
  | [], _, _, _, _ => rfl
  | _ :: _, 0, 0, _, h => absurd rfl h
  | _ :: _, 0, _ + 1, _, _ => rfl
  | _ :: _, _ + 1, 0, _, _ => rfl
  | _ :: t, i + 1, j + 1, v, h => lg_lst_ne t i j v (fun e => h (by rw [e]))
theorem lg_lst_eq : ∀ (L : List (Option Value)) (i : Nat) (v w : Value), lg (lst L i v) i = some w → w = v
  | [], _, _, _, h => nomatch h
  | _ :: _, 0, _, _, h => (Option.some.inj h).symm
  | _ :: t, i + 1, v, w, h => lg_lst_eq t i v w h
/-- no long or double lies just ahead -/
def lc1 (L : List (Option Value)) : Nat → Bool
  | 0 => true
  | i + 1 => match lg L i with
    | some w => w.category != 2
    | none => true
theorem lv_mono {ls : Array Slot} {n : Nat} {l l' : List (Nat × Value)} (h : lv_has ls n l) (hs : ∀ q ∈ l', q ∈ l) : lv_has ls n l' := ⟨h.1, h.2.1, fun q hq => h.2.2 q (hs q hq)⟩
theorem lst_sub {L : List (Option Value)} {i : Nat} {v : Value} (hc : lc1 L i = true) : ∀ q ∈ asc (lst L i v) 0, q ∈ (i, v) :: (asc L 0).filter (fun q => !(q.1 == i) && !(q.1 + 1 == i && q.2.category == 2)) := by
  rintro ⟨j, w⟩ hq
  obtain ⟨k, h1, h2⟩ := (asc_mem _ 0 j w).mp hq
  have e : k = j := by omega
  subst e
  by_cases hj : k = i
  · subst hj
    rw [lg_lst_eq L k v w h2]
    exact List.mem_cons_self
  · rw [lg_lst_ne L i k v hj] at h2
    refine List.mem_cons_of_mem _ (List.mem_filter.mpr ⟨(asc_mem L 0 k w).mpr ⟨k, by omega, h2⟩, ?_⟩)
    have h3 : ¬ (k + 1 = i ∧ w.category = 2) := by
      rintro ⟨e1, e2⟩
      subst e1
      simp only [lc1, h2, e2] at hc
      simp at hc
    by_cases h4 : k + 1 = i
    · have h5 : ¬ w.category = 2 := fun z => h3 ⟨h4, z⟩
      simp [hj, h5]
    · simp [hj, h4]
theorem lst_sub2 {L : List (Option Value)} {i : Nat} {v : Value} (hc : lc1 L i = true) (hc2 : lg L (i + 1) = none) : ∀ q ∈ asc (lst L i v) 0, q ∈ (i, v) :: (asc L 0).filter (fun q => !(q.1 == i) && (!(q.1 == i + 1) && !(q.1 + 1 == i && q.2.category == 2))) := by
  rintro ⟨j, w⟩ hq
  have h0 := lst_sub hc _ hq
  rcases List.mem_cons.mp h0 with h0 | h0
  · rw [h0]; exact List.mem_cons_self
  · obtain ⟨h1, h2⟩ := List.mem_filter.mp h0
    refine List.mem_cons_of_mem _ (List.mem_filter.mpr ⟨h1, ?_⟩)
    obtain ⟨k, h3, h4⟩ := (asc_mem L 0 j w).mp h1
    have e : k = j := by omega
    subst e
    have h5 : ¬ k = i + 1 := fun z => by rw [z, hc2] at h4; cases h4
    simp only [Bool.and_eq_true] at h2 ⊢
    exact ⟨h2.1, by simp [h5], h2.2⟩
