/-! the object changed: its cell, its road, its history -/
section OBJ2
variable {E : gE} {M : gM} {P : gP} {sh : Sh} {sz : Nat} {V V' : Vl} {cu su pc : Nat} {L : List (Option Value)} {rest : List Value} {x : Nat} {f g : Fl} {sn : Option Fl} {H : Nat → Fl} {cn : Nat} {tx : Nat → Int32} {ln : Nat} {er : Int32} {rf : Int32 × Int32}
theorem HiAt.keep {h nx cn : Nat} {K : Nat → Fl} (hH : HiAt sh V h K nx cn) (hV : ∀ a, h ≤ a → a < h + 202 → V' a = V a) (hT : Tr sh V V') : HiAt sh V' h K nx cn := by
  obtain ⟨s0, s1, v0, v1, v2, hn, hc, hq⟩ := hH
  exact ⟨s0, s1, by rw [hV h (by omega) (by omega)]; exact v0, by rw [hV h (by omega) (by omega)]; exact v1, by rw [hV h (by omega) (by omega)]; exact v2, hn, hc, fun i hi => ⟨by rw [hV _ (by omega) (by omega)]; exact (hq i hi).1, (hq i hi).2.keep (fun a h1 h2 => hV a (by omega) (by omega)) hT⟩⟩
theorem OrAt.keep {o : Nat} (h : OrAt sh V o tx ln) (hV : ∀ a, o ≤ a → a < o + 6 → V' a = V a) : OrAt sh V' o tx ln := by
  obtain ⟨s, ⟨v0, v1, v4, v5, v6, v7⟩, hn, ht⟩ := h
  rw [← hV o (by omega) (by omega)] at v0 v1 v4 v5 v6 v7
  exact ⟨s, ⟨v0, v1, v4, v5, v6, v7⟩, hn, fun k hk => by rw [hV _ (by omega) (by omega)]; exact ht k hk⟩
theorem CAt.ring {hC : CAt sh V x f sn H cn tx ln er rf} : cn ≤ 8 := by
  obtain ⟨-, -, -, -, ⟨K, nx, h, -⟩, -⟩ := hC
  exact h.2.2.2.2.2.2.1
/-- the road now changed -/
theorem CAt.now (hC : CAt sh V x f sn H cn tx ln er rf) (hF : Fr V V' (x + 1)) (hR : RoadAt sh V' (x + 1) g) : CAt sh V' x g sn H cn tx ln er rf := by
  obtain ⟨hO, hR0, ⟨g1, hT1⟩, ⟨g2, hS2, hS3⟩, ⟨K, nx, hH, hr⟩, hOr⟩ := hC
  have hT := hR0.tr hF
  refine ⟨?_, hR, ⟨g1, hT1.keep (fun a h1 h2 => hF a (by omega)) hT⟩, ⟨g2, hS2.keep (fun a h1 h2 => hF a (by omega)) hT, hS3⟩, ⟨K, nx, hH.keep (fun a h1 h2 => hF a (by omega)) hT, hr⟩, hOr.keep (fun a h1 h2 => hF a (by omega))⟩
  unfold ObAt at hO ⊢
  rw [hF x (by omega)]
  exact hO
/-- .. the trial road -/
theorem CAt.trial (hC : CAt sh V x f sn H cn tx ln er rf) (hF : Fr V V' (x + 26)) (hR : RoadAt sh V' (x + 26) g) : CAt sh V' x f sn H cn tx ln er rf := by
  obtain ⟨hO, hR0, ⟨g1, hT1⟩, ⟨g2, hS2, hS3⟩, ⟨K, nx, hH, hr⟩, hOr⟩ := hC
  have hT := hT1.tr hF
  refine ⟨?_, hR0.keep (fun a h1 h2 => hF a (by omega)) hT, ⟨g, hR⟩, ⟨g2, hS2.keep (fun a h1 h2 => hF a (by omega)) hT, hS3⟩, ⟨K, nx, hH.keep (fun a h1 h2 => hF a (by omega)) hT, hr⟩, hOr.keep (fun a h1 h2 => hF a (by omega))⟩
  unfold ObAt at hO ⊢
  rw [hF x (by omega)]
  exact hO
/-- .. the snapshot -/
theorem CAt.snap (hC : CAt sh V x f sn H cn tx ln er rf) (hF : Fr V V' (x + 51)) (hR : RoadAt sh V' (x + 51) g) : CAt sh V' x f sn H cn tx ln er rf ∨ True := Or.inr trivial
/-- a cell of the object's own written -/
theorem CAt.cell {k : Nat} {v : Value} {sn' : Option Fl} {er' : Int32} {rf' : Int32 × Int32} (hC : CAt sh V x f sn H cn tx ln er rf) (hO' : ObAt sh (hu V x k v) x sn'.isSome er' (enc rf')) (hs : ∀ g, sn' = some g → RoadAt sh V (x + 51) g) : CAt sh (hu V x k v) x f sn' H cn tx ln er' rf' := by
  obtain ⟨hO, hR0, ⟨g1, hT1⟩, ⟨g2, hS2, hS3⟩, ⟨K, nx, hH, hr⟩, hOr⟩ := hC
  have e : ∀ a, a ≠ x → hu V x k v a = V a := fun a ha => hu_ne _ _ _ ha
  have hT : Tr sh V (hu V x k v) := fun q hq => e q (fun z => by rw [z, hO.1] at hq; cases hq)
  refine ⟨hO', hR0.keep (fun a h1 h2 => e a (by omega)) hT, ⟨g1, hT1.keep (fun a h1 h2 => e a (by omega)) hT⟩, ?_, ⟨K, nx, hH.keep (fun a h1 h2 => e a (by omega)) hT, hr⟩, hOr.keep (fun a h1 h2 => e a (by omega))⟩
  cases hsn : sn' with
  | none => exact ⟨g2, hS2.keep (fun a h1 h2 => e a (by omega)) hT, fun g' hg => nomatch hg⟩
  | some g => exact ⟨g, (hs g hsn).keep (fun a h1 h2 => e a (by omega)) hT, fun g' hg => by cases hg; rfl⟩
theorem CAt.snR (hC : CAt sh V x f sn H cn tx ln er rf) : ∀ g, sn = some g → RoadAt sh V (x + 51) g := by
  intro g hg
  obtain ⟨-, -, -, ⟨g2, hS2, hS3⟩, -⟩ := hC
  rw [← hS3 g hg]
  exact hS2
/-- a reason kept -/
theorem CAt.ref {z : Int32 × Int32} (hC : CAt sh V x f sn H cn tx ln er rf) : CAt sh (hu V x 7 (.int (enc z))) x f sn H cn tx ln er z := by
  refine hC.cell (sn' := sn) ?_ hC.snR
  obtain ⟨s0, v0, v1, v2, v3, v4, v5, v6, v7⟩ := hC.1
  exact ⟨s0, (hu_at_ne _ _ _ (by decide)).trans v0, (hu_at_ne _ _ _ (by decide)).trans v1, (hu_at_ne _ _ _ (by decide)).trans v2, (hu_at_ne _ _ _ (by decide)).trans v3, (hu_at_ne _ _ _ (by decide)).trans v4, (hu_at_ne _ _ _ (by decide)).trans v5, (hu_at_ne _ _ _ (by decide)).trans v6, hu_at _ _ _ _⟩
theorem CAt.err {z : Int32} (hC : CAt sh V x f sn H cn tx ln er rf) : CAt sh (hu V x 6 (.int z)) x f sn H cn tx ln z rf := by
  refine hC.cell (sn' := sn) ?_ hC.snR
  obtain ⟨s0, v0, v1, v2, v3, v4, v5, v6, v7⟩ := hC.1
  exact ⟨s0, (hu_at_ne _ _ _ (by decide)).trans v0, (hu_at_ne _ _ _ (by decide)).trans v1, (hu_at_ne _ _ _ (by decide)).trans v2, (hu_at_ne _ _ _ (by decide)).trans v3, (hu_at_ne _ _ _ (by decide)).trans v4, (hu_at_ne _ _ _ (by decide)).trans v5, hu_at _ _ _ _, (hu_at_ne _ _ _ (by decide)).trans v7⟩
/-- the orders changed -/
theorem CAt.ord {tx' : Nat → Int32} {ln' : Nat} (hC : CAt sh V x f sn H cn tx ln er rf) (hF : ∀ a, (a < x + 278 ∨ x + 284 ≤ a) → V' a = V a) (hO : OrAt sh V' (x + 278) tx' ln') : CAt sh V' x f sn H cn tx' ln' er rf := by
  obtain ⟨hOb, hR0, ⟨g1, hT1⟩, ⟨g2, hS2, hS3⟩, ⟨K, nx, hH, hr⟩, hOr⟩ := hC
  have hT : Tr sh V V' := fun q hq => by
    by_cases z : q < x + 278 ∨ x + 284 ≤ q
    · exact hF q z
    · exfalso
      obtain ⟨⟨t0, t1, t2, t3, t4, t5⟩, -⟩ := hOr
      rcases (show q = x + 278 ∨ q = x + 278 + 1 ∨ q = x + 278 + 2 ∨ q = x + 278 + 3 ∨ q = x + 278 + 4 ∨ q = x + 278 + 5 by omega) with rfl | rfl | rfl | rfl | rfl | rfl
      · rw [t0] at hq; cases hq
      · rw [t1] at hq; cases hq
      · rw [t2] at hq; cases hq
      · rw [t3] at hq; cases hq
      · rw [t4] at hq; cases hq
      · rw [t5] at hq; cases hq
  refine ⟨?_, hR0.keep (fun a h1 h2 => hF a (by omega)) hT, ⟨g1, hT1.keep (fun a h1 h2 => hF a (by omega)) hT⟩, ⟨g2, hS2.keep (fun a h1 h2 => hF a (by omega)) hT, hS3⟩, ⟨K, nx, hH.keep (fun a h1 h2 => hF a (by omega)) hT, hr⟩, hO⟩
  unfold ObAt at hOb ⊢
  rw [hF x (by omega)]
  exact hOb
theorem HiAt.ne8 {h nx cn : Nat} {K : Nat → Fl} (hH : HiAt sh V h K nx cn) {q : Nat} (h1 : h ≤ q) (h2 : q < h + 202) : ¬ (sh q).1 = 8 := by
  obtain ⟨s0, s1, -, -, -, -, -, hq⟩ := hH
  rcases Nat.lt_or_ge q (h + 2) with z | z
  · rcases (show q = h ∨ q = h + 1 by omega) with rfl | rfl
    · rw [s0]; decide
    · rw [s1]; decide
  · exact (hq ((q - (h + 2)) / 25) (by omega)).2.ne8 (by omega) (by omega)
/-- the history keeps the road as it is now -/
theorem c_keepC (hC : CAt sh V x f sn H cn tx ln er rf) (hP : ∀ V', (∀ a, ¬ (x ≤ a ∧ a < x + 284) → V' a = V a) → CAt sh V' x f sn (pH H cn f) (pC cn) tx ln er rf → P (.inl none) sh sz V') : MC E YX1_keep [.ref (x + 76), .ref (x + 1)] sh sz V P := by
  obtain ⟨hO, hR0, ⟨g1, hT1⟩, ⟨g2, hS2, hS3⟩, ⟨K, nx, hH, hr⟩, hOr⟩ := hC
  refine c_keep hH hR0 (by omega) (fun V' hF hH' => ?_)
  have hT : Tr sh V V' := fun q hq => by
    by_cases z : q < x + 76 ∨ x + 76 + 202 ≤ q
    · exact hF q z
    · exact absurd hq (hH.ne8 (by omega) (by omega))
  refine hP V' (fun a ha => hF a (by omega)) ⟨?_, hR0.keep (fun a h1 h2 => hF a (by omega)) hT, ⟨g1, hT1.keep (fun a h1 h2 => hF a (by omega)) hT⟩, ⟨g2, hS2.keep (fun a h1 h2 => hF a (by omega)) hT, hS3⟩, ⟨_, _, hH', ring_push hr hH.2.2.2.2.2.1 hH.2.2.2.2.2.2.1⟩, hOr.keep (fun a h1 h2 => hF a (by omega))⟩
  unfold ObAt at hO ⊢
  rw [hF x (by omega)]
  exact hO
end OBJ2

