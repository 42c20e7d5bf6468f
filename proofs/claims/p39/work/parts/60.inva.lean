/-! what holds of every road that a run comes to -/
section INVA
variable {f g : Fl}
/-- roads alike in what One and the tonnes read -/
theorem One.same (h : One f) (h1 : cnt g = cnt f) (hn : ∀ c, c < cnt f → ncv g c = ncv f c) (h0 : ∀ c, c < cnt f → g (oC c 0) = f (oC c 0)) (h2 : ∀ c, c < cnt f → g (oC c 2) = f (oC c 2)) : One g := by
  intro c c2 k k2 m hc hc2 hk hk2 hm e1 e2
  rw [h1] at hc hc2
  rw [hn c hc] at hk
  rw [hn c2 hc2] at hk2
  rw [h0 c hc, h2 c hc] at e1
  rw [h0 c2 hc2, h2 c2 hc2] at e2
  exact h c c2 k k2 m hc hc2 hk hk2 hm e1 e2
theorem waitT_same (h1 : cnt g = cnt f) (hr : ∀ k, k < 10 → g (oR k) = f (oR k)) (hn : ∀ c, c < cnt f → ncv g c = ncv f c) (hc : ∀ c i, c < cnt f → i < 16 → i ≠ 1 → i ≠ 3 → g (oC c i) = f (oC c i)) : waitT g = waitT f := by
  unfold waitT
  rw [h1]
  congr 1
  · exact sI_cong fun k hk => hr k hk
  · refine sI_cong fun c hcc => sI_cong fun k hk => ?_
    rw [hn c hcc, hc c 2 hcc (by decide) (by decide) (by decide), hc c 0 hcc (by decide) (by decide) (by decide)]
    have e : tkF g c k = tkF f c k := by
      unfold tkF
      rw [hc c (4 + 3 * k) hcc (by omega) (by omega) (by omega), hc c (5 + 3 * k) hcc (by omega) (by omega) (by omega), hc c (6 + 3 * k) hcc (by omega) (by omega) (by omega)]
    rw [e]
/-- a change below the rows -/
theorem InvA.low (h : InvA f) (hI : InvB g) (h1 : g 1 = f 1) (h3 : g 3 = f 3) (h4 : g 4 = f 4) (hf : ∀ k, 80 ≤ k → g k = f k) : InvA g := by
  have e1 : cnt g = cnt f := by unfold cnt; rw [h1]
  have en : ∀ c, ncv g c = ncv f c := fun c => by unfold ncv; rw [hf _ (by unfold oC; omega)]
  refine ⟨hI, h.2.1.same e1 (fun c _ => en c) (fun c _ => hf _ (by unfold oC; omega)) (fun c _ => hf _ (by unfold oC; omega)), ?_⟩
  rw [h3, h4, h.2.2, waitT_same e1 (fun k _ => hf _ (by unfold oR; omega)) (fun c _ => en c) (fun c i _ _ _ _ => hf _ (by unfold oC; omega))]
theorem setF_A {w v : Int32} (h : InvA f) (hs : isSV w v) : InvA (upd f (5 + w.toNatClampNeg) v) := by
  obtain ⟨k, hk, rfl⟩ := in_nI hs.1.1 hs.1.2 (by decide)
  refine h.low (setF_inv h.1 hs) ?_ ?_ ?_ ?_
  all_goals rw [nI_clamp (by omega)]
  · exact pk_un (by omega)
  · exact pk_un (by omega)
  · exact pk_un (by omega)
  · intro i hi
    exact pk_un (by omega)
theorem drF_A {j : Nat} (h : InvA f) (hj : j < 12) : InvA (drF f j) := by
  have e : ∀ i, i ≠ 2 → ¬ (8 ≤ i ∧ i < 80) → drF f j i = f i := fun i a b => by
    unfold drF
    rw [pk_un a, pk_un (by unfold oM; omega), pk_un (by unfold oM; omega)]
  exact h.low (drF_inv h.1 hj) (e _ (by decide) (by omega)) (e _ (by decide) (by omega)) (e _ (by decide) (by omega)) (fun k hk => e _ (by omega) (by omega))
theorem dayN_out {i : Nat} (hi : ¬ (8 ≤ i ∧ i < 80)) : ∀ {j : Nat}, j ≤ 12 → dayN f j i = f i
  | 0, _ => rfl
  | j + 1, h => by
    show dayM (dayN f j) j i = _
    unfold dayM
    rw [pk_un (by unfold oM; omega), pk_un (by unfold oM; omega)]
    exact dayN_out hi (by omega)
theorem passF_A (h : InvA f) : ∀ {n : Nat}, InvA (passF f n)
  | 0 => h
  | n + 1 => by
    have ih := passF_A h (n := n)
    have e : ∀ i, i ≠ 0 → ¬ (8 ≤ i ∧ i < 80) → passF f (n + 1) i = passF f n i := fun i a b => by
      show dayF (passF f n) i = _
      unfold dayF
      rw [pk_un a]
      exact dayN_out b (Nat.le_refl 12)
    exact ih.low (passF_inv h.1) (e _ (by decide) (by omega)) (e _ (by decide) (by omega)) (e _ (by decide) (by omega)) (fun k hk => e _ (by omega) (by omega))
theorem sI_upd {p q : Nat → Int32} {i : Nat} {d : Int32} : ∀ {n : Nat}, i < n → (∀ k, k ≠ i → q k = p k) → q i = p i + d → sI q n = sI p n + d
  | 0, h, _, _ => absurd h (Nat.not_lt_zero i)
  | n + 1, h, h1, h2 => by
    rw [sI_succ, sI_succ]
    by_cases e : i = n
    · subst e
      rw [h2, sI_cong (fun k hk => h1 k (by omega)), Int32.add_assoc]
    · rw [sI_upd (i := i) (n := n) (by omega) h1 h2, h1 n (by omega), Int32.add_assoc, Int32.add_assoc, Int32.add_comm d]
/-- a truck comes -/
theorem trF_A {k : Nat} {w ax : Int32} (h : InvA f) (hk : k < 10) (h0 : f (oR k) = 0) (ht : okT (nI (k / 5), w, ax)) : InvA (trF f k w ax) := by
  have e1 : trF f k w ax 1 = f 1 := trF_out (by unfold oR; omega) (by unfold oR; omega) (by decide)
  have ec : cnt (trF f k w ax) = cnt f := by unfold cnt; rw [e1]
  have eC : ∀ c i, trF f k w ax (oC c i) = f (oC c i) := fun c i => trF_out (by unfold oR oC; omega) (by unfold oR oC; omega) (by unfold oC; omega)
  have en : ∀ c, ncv (trF f k w ax) c = ncv f c := fun c => by unfold ncv; rw [eC]
  have ek : trF f k w ax (oR k) = w := by
    unfold trF
    rw [pk_un (by unfold oR; omega), pk_un (by omega), pk_us]
  have ek1 : trF f k w ax (oR k + 1) = ax := by
    unfold trF
    rw [pk_un (by unfold oR; omega), pk_us]
  have eo : ∀ j, j ≠ k → trF f k w ax (oR j) = f (oR j) ∧ trF f k w ax (oR j + 1) = f (oR j + 1) := fun j hj => ⟨trF_out (by unfold oR; omega) (by unfold oR; omega) (by unfold oR; omega), trF_out (by unfold oR; omega) (by unfold oR; omega) (by unfold oR; omega)⟩
  have hB : InvB (trF f k w ax) := by
    refine InvB.chg h.1 (by rw [ec, e1]; exact h.1.1) (by rw [trF_out (by unfold oR; omega) (by unfold oR; omega) (by decide)]; exact h.1.2.1) (by rw [trF_out (by unfold oR; omega) (by unfold oR; omega) (by decide)]; exact h.1.2.2.1) (fun i h1 h2 => trF_out (by unfold oR; omega) (by unfold oR; omega) (by omega)) (fun j hj => ?_) (fun c hc => (h.1.cv (by rw [ec] at hc; exact hc)).same (fun i _ => eC c i))
    by_cases z : j = k
    · rw [z, ek, ek1]
      exact Or.inr ht
    · rw [(eo j z).1, (eo j z).2]
      exact h.1.2.2.2.2.1 j hj
  refine ⟨hB, h.2.1.same ec (fun c _ => en c) (fun c _ => eC c 0) (fun c _ => eC c 2), ?_⟩
  have e3 : trF f k w ax 3 = f 3 + w := by unfold trF; exact pk_us
  have e4 : trF f k w ax 4 = f 4 := trF_out (by unfold oR; omega) (by unfold oR; omega) (by decide)
  rw [e3, e4, h.2.2]
  have es : sI (fun k' => trF f k w ax (oR k')) 10 = sI (fun k' => f (oR k')) 10 + w := sI_upd (i := k) hk (fun j hj => (eo j hj).1) (by rw [ek, h0, Int32.zero_add])
  unfold waitT
  rw [es, ec]
  have er : sI (fun c => sI (fun k' => if k' < ncv (trF f k w ax) c then (if nI 12 ≤ mt (trF f k w ax (oC c 2)) (trF f k w ax (oC c 0)) k' then nI 0 else (tkF (trF f k w ax) c k').2.1) else nI 0) 4) (cnt f) = sI (fun c => sI (fun k' => if k' < ncv f c then (if nI 12 ≤ mt (f (oC c 2)) (f (oC c 0)) k' then nI 0 else (tkF f c k').2.1) else nI 0) 4) (cnt f) := by
    refine sI_cong fun c _ => sI_cong fun j _ => ?_
    rw [en, eC, eC]
    unfold tkF
    rw [eC, eC, eC]
  rw [er]
  generalize sI (fun k => f (oR k)) 10 = A
  generalize sI _ (cnt f) = B
  rw [Int32.add_assoc, Int32.add_assoc A B w, Int32.add_assoc A w B, Int32.add_comm B w]
end INVA

