/-! what changes a Road: pictures part by part -/
section PART
def rB (V : Vl) (r : Nat) (f : Fl) : Prop := V r 0 = .ref (r + 1) ∧ V r 1 = .int (f 0) ∧ V r 2 = .ref (r + 2) ∧ V r 3 = .ref (r + 3) ∧ V r 4 = .ref (r + 4) ∧ V r 5 = .int (f 1) ∧ V r 6 = .int (f 2) ∧ V r 7 = .int (f 3) ∧ V r 8 = .int (f 4)
def rC (V : Vl) (r : Nat) (f : Fl) : Prop := ∀ k, k < 3 → V (r + 1) k = .int (f (5 + k))
def rD (sh : Sh) (V : Vl) (r : Nat) (f : Fl) : Prop := ∀ j, j < 12 → V (r + 2) j = .ref (r + 5 + j) ∧ MiAt sh V (r + 5 + j) (f (oM j 0)) (f (oM j 3)) (f (oM j 4)) (f (oM j 1)) (f (oM j 2)) (f (oM j 5))
def rE (sh : Sh) (V : Vl) (r : Nat) (f : Fl) : Prop := ∀ k, k < 10 → (f (oR k) = 0 → V (r + 3) k = .null) ∧ (¬ f (oR k) = 0 → ∃ q, V (r + 3) k = .ref q ∧ TrAt sh V q (nI (k / 5), f (oR k), f (oR k + 1)))
def rF (sh : Sh) (V : Vl) (r : Nat) (f : Fl) : Prop := ∀ c, c < 4 → V (r + 4) c = .ref (r + 17 + 2 * c) ∧ ∃ g, CvAt sh V (r + 17 + 2 * c) g (ldF f c) (nF f c) (tkF f c) ∧ (c < cnt f → g = f (oC c 0))
/-- outside of a road nothing has changed -/
def Fr (V V' : Vl) (r : Nat) : Prop := ∀ a, (a < r ∨ r + 25 ≤ a) → V' a = V a
/-- no truck has changed -/
def Tr (sh : Sh) (V V' : Vl) : Prop := ∀ q, (sh q).1 = 8 → V' q = V q
theorem Fr.rf {V : Vl} {r : Nat} : Fr V V r := fun _ _ => rfl
theorem Fr.trans {V V1 V2 : Vl} {r : Nat} (h1 : Fr V V1 r) (h2 : Fr V1 V2 r) : Fr V V2 r := fun a ha => (h2 a ha).trans (h1 a ha)
theorem Fr.put {V V' : Vl} {r a k : Nat} {v : Value} (h : Fr V V' r) (h1 : r ≤ a) (h2 : a < r + 25) : Fr V (hu V' a k v) r := fun b hb => (hu_ne V' k v (by omega)).trans (h b hb)
variable {sh : Sh} {V V' : Vl} {r : Nat} {f f' : Fl}
theorem TrAt.keep {q : Nat} {t : Int32 × Int32 × Int32} (h : TrAt sh V q t) (hT : Tr sh V V') : TrAt sh V' q t := by
  have e := hT q h.1
  unfold TrAt at h ⊢
  rw [e]
  exact h
theorem RoadAt.ne8 (h : RoadAt sh V r f) {q : Nat} (h1 : r ≤ q) (h2 : q < r + 25) : ¬ (sh q).1 = 8 := by
  obtain ⟨⟨a0, a1, a2, a3, a4⟩, -, -, hD, -, hF⟩ := h
  intro h8
  have hk : q = r ∨ q = r + 1 ∨ q = r + 2 ∨ q = r + 3 ∨ q = r + 4 ∨ (∃ j, j < 12 ∧ q = r + 5 + j) ∨ (∃ c, c < 4 ∧ q = r + 17 + 2 * c) ∨ ∃ c, c < 4 ∧ q = r + 17 + 2 * c + 1 := by
    rcases Nat.lt_or_ge q (r + 5) with z | z
    · omega
    rcases Nat.lt_or_ge q (r + 17) with z2 | z2
    · exact Or.inr (Or.inr (Or.inr (Or.inr (Or.inr (Or.inl ⟨q - (r + 5), by omega, by omega⟩)))))
    rcases Nat.mod_two_eq_zero_or_one (q - (r + 17)) with z3 | z3
    · exact Or.inr (Or.inr (Or.inr (Or.inr (Or.inr (Or.inr (Or.inl ⟨(q - (r + 17)) / 2, by omega, by omega⟩))))))
    · exact Or.inr (Or.inr (Or.inr (Or.inr (Or.inr (Or.inr (Or.inr ⟨(q - (r + 17)) / 2, by omega, by omega⟩))))))
  rcases hk with rfl | rfl | rfl | rfl | rfl | ⟨j, hj, rfl⟩ | ⟨c, hc, rfl⟩ | ⟨c, hc, rfl⟩
  · rw [a0] at h8; cases h8
  · rw [a1] at h8; cases h8
  · rw [a2] at h8; cases h8
  · rw [a3] at h8; cases h8
  · rw [a4] at h8; cases h8
  · rw [(hD j hj).2.1] at h8; cases h8
  · obtain ⟨-, g, hv, -⟩ := hF c hc
    rw [hv.1] at h8; cases h8
  · obtain ⟨-, g, hv, -⟩ := hF c hc
    rw [hv.2.1] at h8; cases h8
theorem RoadAt.tr (h : RoadAt sh V r f) (hF : Fr V V' r) : Tr sh V V' := fun q hq => by
  by_cases z : q < r ∨ r + 25 ≤ q
  · exact hF q z
  · exact absurd hq (h.ne8 (by omega) (by omega))
theorem rB.keep (h : rB V r f) (hr : V' r = V r) (hf : ∀ k, k < 5 → f' k = f k) : rB V' r f' := by
  unfold rB at h ⊢
  rw [hr, hf 0 (by decide), hf 1 (by decide), hf 2 (by decide), hf 3 (by decide), hf 4 (by decide)]
  exact h
theorem rC.keep (h : rC V r f) (hr : V' (r + 1) = V (r + 1)) (hf : ∀ k, k < 3 → f' (5 + k) = f (5 + k)) : rC V' r f' := fun k hk => by
  rw [hr, hf k hk]
  exact h k hk
theorem rD.keep (h : rD sh V r f) (hr : V' (r + 2) = V (r + 2)) (hm : ∀ j, j < 12 → V' (r + 5 + j) = V (r + 5 + j)) (hf : ∀ k, 8 ≤ k → k < 80 → f' k = f k) : rD sh V' r f' := fun j hj => by
  obtain ⟨h1, h2⟩ := h j hj
  unfold MiAt at h2 ⊢
  rw [hr, hm j hj, hf (oM j 0) (by unfold oM; omega) (by unfold oM; omega), hf (oM j 1) (by unfold oM; omega) (by unfold oM; omega), hf (oM j 2) (by unfold oM; omega) (by unfold oM; omega), hf (oM j 3) (by unfold oM; omega) (by unfold oM; omega), hf (oM j 4) (by unfold oM; omega) (by unfold oM; omega), hf (oM j 5) (by unfold oM; omega) (by unfold oM; omega)]
  exact ⟨h1, h2⟩
theorem rE.keep (h : rE sh V r f) (hT : Tr sh V V') (hr : V' (r + 3) = V (r + 3)) (hf : ∀ k, 80 ≤ k → k < 100 → f' k = f k) : rE sh V' r f' := fun k hk => by
  obtain ⟨h1, h2⟩ := h k hk
  rw [hr, hf (oR k) (by unfold oR; omega) (by unfold oR; omega), hf (oR k + 1) (by unfold oR; omega) (by unfold oR; omega)]
  exact ⟨h1, fun q => by
    obtain ⟨t, q1, q2⟩ := h2 q
    exact ⟨t, q1, q2.keep hT⟩⟩
theorem CvAt.keep {a n : Nat} {g ld : Int32} {tk : Nat → Int32 × Int32 × Int32} (h : CvAt sh V a g ld n tk) (hT : Tr sh V V') (h1 : V' a = V a) (h2 : V' (a + 1) = V (a + 1)) : CvAt sh V' a g ld n tk := by
  obtain ⟨c0, ca, c1, c2, c3, c4, c5, c6, c7⟩ := h
  exact ⟨c0, ca, by rw [h1]; exact c1, by rw [h1]; exact c2, by rw [h1]; exact c3, by rw [h1]; exact c4, c5, fun k hk => by
    obtain ⟨q, q1, q2⟩ := c6 k hk
    exact ⟨q, by rw [h2]; exact q1, q2.keep hT⟩, fun k hk hk2 => by rw [h2]; exact c7 k hk hk2⟩
theorem tkF_eq {c k : Nat} (hf : ∀ i, i < 16 → i ≠ 3 → f' (oC c i) = f (oC c i)) (hk : k < 4) : tkF f' c k = tkF f c k := by
  unfold tkF
  rw [hf (4 + 3 * k) (by omega) (by omega), hf (5 + 3 * k) (by omega) (by omega), hf (6 + 3 * k) (by omega) (by omega)]
theorem CvAt.tk {a n : Nat} {g ld : Int32} {tk tk' : Nat → Int32 × Int32 × Int32} (h : CvAt sh V a g ld n tk) (he : ∀ k, k < n → tk' k = tk k) : CvAt sh V a g ld n tk' := by
  obtain ⟨c0, ca, c1, c2, c3, c4, c5, c6, c7⟩ := h
  exact ⟨c0, ca, c1, c2, c3, c4, c5, fun k hk => by rw [he k hk]; exact c6 k hk, c7⟩
theorem rF_one {c : Nat} (h : V (r + 4) c = .ref (r + 17 + 2 * c) ∧ ∃ g, CvAt sh V (r + 17 + 2 * c) g (ldF f c) (nF f c) (tkF f c) ∧ (c < cnt f → g = f (oC c 0))) (hT : Tr sh V V') (hr : V' (r + 4) = V (r + 4)) (h1 : V' (r + 17 + 2 * c) = V (r + 17 + 2 * c)) (h2 : V' (r + 17 + 2 * c + 1) = V (r + 17 + 2 * c + 1)) (hc1 : c < cnt f' ↔ c < cnt f) (hf : ∀ i, i < 16 → i ≠ 3 → f' (oC c i) = f (oC c i)) : V' (r + 4) c = .ref (r + 17 + 2 * c) ∧ ∃ g, CvAt sh V' (r + 17 + 2 * c) g (ldF f' c) (nF f' c) (tkF f' c) ∧ (c < cnt f' → g = f' (oC c 0)) := by
  obtain ⟨q1, g, q2, q3⟩ := h
  have e1 : ldF f' c = ldF f c := by
    unfold ldF
    by_cases z : c < cnt f
    · rw [if_pos z, if_pos (hc1.mpr z), hf 2 (by decide) (by decide)]
    · rw [if_neg z, if_neg (fun q => z (hc1.mp q))]
  have e2 : nF f' c = nF f c := by
    unfold nF ncv
    by_cases z : c < cnt f
    · rw [if_pos z, if_pos (hc1.mpr z), hf 1 (by decide) (by decide)]
    · rw [if_neg z, if_neg (fun q => z (hc1.mp q))]
  rw [hr, e1, e2, hf 0 (by decide) (by decide)]
  have h4 := q2.2.2.2.2.2.2.1
  exact ⟨q1, g, (q2.keep hT h1 h2).tk (fun k hk => tkF_eq hf (by omega)), fun z => q3 (hc1.mp z)⟩
theorem rF.keep (h : rF sh V r f) (hT : Tr sh V V') (hr : V' (r + 4) = V (r + 4)) (hc : ∀ i, i < 8 → V' (r + 17 + i) = V (r + 17 + i)) (h1 : f' 1 = f 1) (hf : ∀ c i, c < 4 → i < 16 → i ≠ 3 → f' (oC c i) = f (oC c i)) : rF sh V' r f' := fun c hc4 =>
  rF_one (h c hc4) hT hr (hc (2 * c) (by omega)) (hc (2 * c + 1) (by omega)) (by unfold cnt; rw [h1]) (fun i hi hi3 => hf c i hc4 hi hi3)
/-- a road whose numbers are read alike -/
theorem RoadAt.same (h : RoadAt sh V r f) (h1 : ∀ k, k < 100 → f' k = f k) (hf : ∀ c i, c < 4 → i < 16 → i ≠ 3 → f' (oC c i) = f (oC c i)) : RoadAt sh V r f' :=
  ⟨h.1, rB.keep h.2.1 rfl (fun k hk => h1 k (by omega)), rC.keep h.2.2.1 rfl (fun k hk => h1 _ (by omega)), rD.keep h.2.2.2.1 rfl (fun _ _ => rfl) (fun k _ hk => h1 k (by omega)), rE.keep h.2.2.2.2.1 (fun _ _ => rfl) rfl (fun k _ hk => h1 k hk), rF.keep h.2.2.2.2.2 (fun _ _ => rfl) rfl (fun _ _ => rfl) (h1 1 (by decide)) hf⟩
/-- .. apart from what changed -/
theorem RoadAt.keep (h : RoadAt sh V r f) (hV : ∀ a, r ≤ a → a < r + 25 → V' a = V a) (hT : Tr sh V V') : RoadAt sh V' r f :=
  ⟨h.1, rB.keep h.2.1 (hV r (by omega) (by omega)) (fun _ _ => rfl), rC.keep h.2.2.1 (hV _ (by omega) (by omega)) (fun _ _ => rfl), rD.keep h.2.2.2.1 (hV _ (by omega) (by omega)) (fun j hj => hV _ (by omega) (by omega)) (fun _ _ _ => rfl), rE.keep h.2.2.2.2.1 hT (hV _ (by omega) (by omega)) (fun _ _ _ => rfl), rF.keep h.2.2.2.2.2 hT (hV _ (by omega) (by omega)) (fun i hi => hV _ (by omega) (by omega)) rfl (fun _ _ _ _ _ => rfl)⟩
/-- a mile written -/
theorem RoadAt.mile {j : Nat} (h : RoadAt sh V r f) (hj : j < 12) (hV : ∀ a, a ≠ r + 5 + j → V' a = V a) (hM : MiAt sh V' (r + 5 + j) (f' (oM j 0)) (f' (oM j 3)) (f' (oM j 4)) (f' (oM j 1)) (f' (oM j 2)) (f' (oM j 5))) (hf : ∀ k, ¬ (8 + 6 * j ≤ k ∧ k < 14 + 6 * j) → f' k = f k) : RoadAt sh V' r f' := by
  have hT : Tr sh V V' := h.tr (fun a ha => hV a (by omega))
  refine ⟨h.1, rB.keep h.2.1 (hV _ (by omega)) (fun k hk => hf k (by omega)), rC.keep h.2.2.1 (hV _ (by omega)) (fun k hk => hf _ (by omega)), fun i hi => ?_, rE.keep h.2.2.2.2.1 hT (hV _ (by omega)) (fun k h1 _ => hf k (by omega)), rF.keep h.2.2.2.2.2 hT (hV _ (by omega)) (fun i hi => hV _ (by omega)) (hf 1 (by omega)) (fun c i hc hi _ => hf _ (by unfold oC; omega))⟩
  by_cases z : i = j
  · subst z
    exact ⟨by rw [hV _ (by omega)]; exact (h.2.2.2.1 i hi).1, hM⟩
  · obtain ⟨h1, h2⟩ := h.2.2.2.1 i hi
    unfold MiAt at h2 ⊢
    rw [hV (r + 2) (by omega), hV (r + 5 + i) (by omega), hf (oM i 0) (by unfold oM; omega), hf (oM i 1) (by unfold oM; omega), hf (oM i 2) (by unfold oM; omega), hf (oM i 3) (by unfold oM; omega), hf (oM i 4) (by unfold oM; omega), hf (oM i 5) (by unfold oM; omega)]
    exact ⟨h1, h2⟩
/-- one of the numbers 0, 2, 3, 4 written -/
theorem RoadAt.fld {i s : Nat} {x : Int32} (hi : (i = 0 ∧ s = 1) ∨ (i = 2 ∧ s = 6) ∨ (i = 3 ∧ s = 7) ∨ (i = 4 ∧ s = 8)) (h : RoadAt sh V r f) : RoadAt sh (hu V r s (.int x)) r (upd f i x) := by
  have hV : ∀ a, a ≠ r → hu V r s (.int x) a = V a := fun a ha => hu_ne V s _ ha
  have hT : Tr sh V (hu V r s (.int x)) := h.tr (fun a ha => hV a (by omega))
  have hf : ∀ k, k ≠ i → upd f i x k = f k := fun k hk => pk_un hk
  refine ⟨h.1, ?_, rC.keep h.2.2.1 (hV _ (by omega)) (fun k hk => hf _ (by omega)), rD.keep h.2.2.2.1 (hV _ (by omega)) (fun j hj => hV _ (by omega)) (fun k h1 h2 => hf k (by omega)), rE.keep h.2.2.2.2.1 hT (hV _ (by omega)) (fun k h1 h2 => hf k (by omega)), rF.keep h.2.2.2.2.2 hT (hV _ (by omega)) (fun i hi => hV _ (by omega)) (hf 1 (by omega)) (fun c k hc hk _ => hf _ (by unfold oC; omega))⟩
  obtain ⟨b0, b1, b2, b3, b4, b5, b6, b7, b8⟩ := h.2.1
  rcases hi with ⟨rfl, rfl⟩ | ⟨rfl, rfl⟩ | ⟨rfl, rfl⟩ | ⟨rfl, rfl⟩ <;> simp [hu, updV, upd, b0, b1, b2, b3, b4, b5, b6, b7, b8]
/-- a setting written -/
theorem RoadAt.sett {k : Nat} {x : Int32} (hk : k < 3) (h : RoadAt sh V r f) : RoadAt sh (hu V (r + 1) k (.int x)) r (upd f (5 + k) x) := by
  have hV : ∀ a, a ≠ r + 1 → hu V (r + 1) k (.int x) a = V a := fun a ha => hu_ne V k _ ha
  have hT : Tr sh V (hu V (r + 1) k (.int x)) := h.tr (fun a ha => hV a (by omega))
  have hf : ∀ j, j ≠ 5 + k → upd f (5 + k) x j = f j := fun j hj => pk_un hj
  refine ⟨h.1, rB.keep h.2.1 (hV _ (by omega)) (fun j hj => hf j (by omega)), fun j hj => ?_, rD.keep h.2.2.2.1 (hV _ (by omega)) (fun j hj => hV _ (by omega)) (fun k h1 h2 => hf k (by omega)), rE.keep h.2.2.2.2.1 hT (hV _ (by omega)) (fun k h1 h2 => hf k (by omega)), rF.keep h.2.2.2.2.2 hT (hV _ (by omega)) (fun i hi => hV _ (by omega)) (hf 1 (by omega)) (fun c k hc hk _ => hf _ (by unfold oC; omega))⟩
  by_cases z : j = k
  · subst z
    rw [hu_at, pk_us]
  · rw [hu_at_ne _ _ _ z, hf _ (by omega)]
    exact h.2.2.1 j hj
/-- a convoy written -/
theorem RoadAt.conv {c : Nat} (h : RoadAt sh V r f) (hc : c < 4) (hV : ∀ a, a ≠ r + 17 + 2 * c → a ≠ r + 17 + 2 * c + 1 → V' a = V a) (hC : ∃ g, CvAt sh V' (r + 17 + 2 * c) g (ldF f' c) (nF f' c) (tkF f' c) ∧ (c < cnt f' → g = f' (oC c 0))) (h1 : f' 1 = f 1) (hf : ∀ k, ¬ (100 + 16 * c ≤ k ∧ k < 116 + 16 * c) → f' k = f k) : RoadAt sh V' r f' := by
  have hT : Tr sh V V' := h.tr (fun a ha => hV a (by omega) (by omega))
  refine ⟨h.1, rB.keep h.2.1 (hV _ (by omega) (by omega)) (fun k hk => hf k (by omega)), rC.keep h.2.2.1 (hV _ (by omega) (by omega)) (fun k hk => hf _ (by omega)), rD.keep h.2.2.2.1 (hV _ (by omega) (by omega)) (fun j hj => hV _ (by omega) (by omega)) (fun k _ hk => hf k (by omega)), rE.keep h.2.2.2.2.1 hT (hV _ (by omega) (by omega)) (fun k h1 _ => hf k (by omega)), fun d hd => ?_⟩
  by_cases z : d = c
  · subst z
    exact ⟨by rw [hV _ (by omega) (by omega)]; exact (h.2.2.2.2.2 d hd).1, hC⟩
  · exact rF_one (h.2.2.2.2.2 d hd) hT (hV _ (by omega) (by omega)) (hV _ (by omega) (by omega)) (hV _ (by omega) (by omega)) (by unfold cnt; rw [h1]) (fun i hi _ => hf _ (by unfold oC; omega))
/-! the invariant, part by part -/
def iM (f : Fl) (j : Nat) : Prop := okI (f (oM j 0)).toUInt32 ∧ okI (f (oM j 3)).toUInt32 ∧ (∃ c, c ≤ 5 ∧ f (oM j 1) = nI c) ∧ ∃ s, s < 20 ∧ f (oM j 2) = nI s
theorem InvB.mile {j : Nat} (h : InvB f) (hM : iM f' j) (hf : ∀ k, ¬ (8 + 6 * j ≤ k ∧ k < 14 + 6 * j) → f' k = f k) (hj : j < 12) : InvB f' := by
  obtain ⟨h1, h2, h3, h4, h5, h6⟩ := h
  have e1 : cnt f' = cnt f := by unfold cnt; rw [hf 1 (by omega)]
  refine ⟨by rw [e1, hf 1 (by omega)]; exact h1, by rw [hf 5 (by omega)]; exact h2, by rw [hf 6 (by omega)]; exact h3, fun i hi => ?_, fun k hk => ?_, fun c hc => ?_⟩
  · by_cases z : i = j
    · subst z; exact hM
    · rw [hf (oM i 0) (by unfold oM; omega), hf (oM i 3) (by unfold oM; omega), hf (oM i 1) (by unfold oM; omega), hf (oM i 2) (by unfold oM; omega)]
      exact h4 i hi
  · rw [hf (oR k) (by unfold oR; omega), hf (oR k + 1) (by unfold oR; omega)]
    exact h5 k hk
  · have e : ∀ i, f' (oC c i) = f (oC c i) := fun i => hf _ (by unfold oC; omega)
    unfold ncv tkF
    rw [e1] at hc
    have w := h6 c hc
    unfold ncv tkF at w
    simp only [e]
    exact w
theorem InvB.low {n : Nat} {x : Int32} (h : InvB f) (hn : n = 0 ∨ n = 2 ∨ n = 3 ∨ n = 4) : InvB (upd f n x) := by
  have hf : ∀ k, k ≠ n → upd f n x k = f k := fun k hk => pk_un hk
  obtain ⟨h1, h2, h3, h4, h5, h6⟩ := h
  have e1 : cnt (upd f n x) = cnt f := by unfold cnt; rw [hf 1 (by omega)]
  refine ⟨by rw [e1, hf 1 (by omega)]; exact h1, by rw [hf 5 (by omega)]; exact h2, by rw [hf 6 (by omega)]; exact h3, fun i hi => ?_, fun k hk => ?_, fun c hc => ?_⟩
  · rw [hf (oM i 0) (by unfold oM; omega), hf (oM i 3) (by unfold oM; omega), hf (oM i 1) (by unfold oM; omega), hf (oM i 2) (by unfold oM; omega)]
    exact h4 i hi
  · rw [hf (oR k) (by unfold oR; omega), hf (oR k + 1) (by unfold oR; omega)]
    exact h5 k hk
  · have e : ∀ i, upd f n x (oC c i) = f (oC c i) := fun i => hf _ (by unfold oC; omega)
    unfold ncv tkF
    rw [e1] at hc
    have w := h6 c hc
    unfold ncv tkF at w
    simp only [e]
    exact w
end PART

