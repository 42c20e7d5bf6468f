/-! how often a convoy rolls: reckoned ahead, and rolled -/
section AHEAD
variable {f : Fl}
/-- a sum of naturals -/
def sN (p : Nat → Nat) : Nat → Nat
  | 0 => 0
  | n + 1 => sN p n + p n
theorem sN_cong {p q : Nat → Nat} : ∀ {n : Nat}, (∀ k, k < n → p k = q k) → sN p n = sN q n
  | 0, _ => rfl
  | n + 1, h => by
    show sN p n + p n = sN q n + q n
    rw [sN_cong (fun k hk => h k (by omega)), h n (by omega)]
theorem sN_add {p q : Nat → Nat} : ∀ {n : Nat}, sN p n + sN q n = sN (fun k => p k + q k) n
  | 0 => rfl
  | n + 1 => by
    have := sN_add (p := p) (q := q) (n := n)
    show (sN p n + p n) + (sN q n + q n) = sN (fun k => p k + q k) n + (p n + q n)
    omega
theorem sN_cut {p : Nat → Nat} {n m : Nat} (h : m ≤ n) (h0 : ∀ k, m ≤ k → k < n → p k = 0) : sN p n = sN p m := by
  induction n with
  | zero => rw [show m = 0 by omega]
  | succ n ih =>
    rcases Nat.lt_or_ge m (n + 1) with q | q
    · show sN p n + p n = _
      rw [h0 n (by omega) (by omega), ih (by omega) (fun k a b => h0 k a (by omega))]
      rfl
    · rw [show m = n + 1 by omega]
theorem sI_sN {p : Nat → Int32} {q : Nat → Nat} : ∀ {n : Nat}, (∀ k, k < n → p k = nI (q k)) → sI p n = nI (sN q n)
  | 0, _ => rfl
  | n + 1, h => by
    rw [sI_succ, sI_sN (fun k hk => h k (by omega)), h n (by omega), nI_add]
    rfl
/-- a mile that has borne Y more -/
def mS (f : Fl) (st cr Y j : Nat) : Prop := f (oM j 2) = nI ((st + Y) % 20) ∧ f (oM j 1) = nI (min 5 (cr + (st + Y) / 20))
theorem mS_car {st cr Y j s : Nat} (h : mS f st cr Y j) (hs : s ≤ 20) (hst : st < 20) (hY : Y < 1000) (hcr : cr ≤ 5) : mS (carF f j (nI s)) st cr (Y + s) j := by
  obtain ⟨h2, h1⟩ := h
  unfold carF mS
  rw [h2, h1, nI_add]
  by_cases q : nI 20 ≤ nI ((st + Y) % 20 + s)
  · have q' := (nI_leI (by decide) (by omega)).mp q
    rw [if_pos q]
    refine ⟨?_, ?_⟩
    · rw [pk_un (oM_ne (by decide)), pk_us, pk_sub (by omega)]
      rw [show (st + Y) % 20 + s - 20 = (st + (Y + s)) % 20 by omega]
    · rw [pk_us, nI_add]
      by_cases z : nI 5 < nI (min 5 (cr + (st + Y) / 20) + 1)
      · have z' := (nI_ltI (by decide) (by omega)).mp z
        rw [if_pos z, show min 5 (cr + (st + (Y + s)) / 20) = 5 by omega]
      · have z' : ¬ 5 < min 5 (cr + (st + Y) / 20) + 1 := fun y => z ((nI_ltI (by decide) (by omega)).mpr y)
        rw [if_neg z, show min 5 (cr + (st + Y) / 20) + 1 = min 5 (cr + (st + (Y + s)) / 20) by omega]
  · have q' : ¬ 20 ≤ (st + Y) % 20 + s := fun y => q ((nI_leI (by decide) (by omega)).mpr y)
    rw [if_neg q]
    refine ⟨?_, ?_⟩
    · rw [pk_us, show (st + Y) % 20 + s = (st + (Y + s)) % 20 by omega]
    · rw [pk_un (oM_ne (by decide)), pk_un (oM_ne (by decide)), h1, show min 5 (cr + (st + Y) / 20) = min 5 (cr + (st + (Y + s)) / 20) by omega]
theorem carF_i {h : Fl} {j j2 i : Nat} {x : Int32} (hi : i = 0 ∨ i = 3 ∨ i = 4) : carF h j x (oM j2 i) = h (oM j2 i) := by
  unfold carF
  split
  · rw [pk_un (by unfold oM; omega), pk_un (by unfold oM; omega), pk_un (by unfold oM; omega)]
  · rw [pk_un (by unfold oM; omega), pk_un (by unfold oM; omega)]
theorem carF_j {h : Fl} {j j2 i : Nat} {x : Int32} (hj : j2 ≠ j) (hi : i < 6) : carF h j x (oM j2 i) = h (oM j2 i) := carF_out (by unfold oM; omega)
/-- strain on mile j behind e rolls -/
def yS (l x n : Nat) (s : Nat → Nat) (e j : Nat) : Nat := sN (fun k => if (l : Int) - k * (x + 1) < j ∧ (j : Int) ≤ l + e - k * (x + 1) then s k else 0) n
def yD (l x : Nat) (s : Nat → Nat) (e j k : Nat) : Nat := if (l : Int) + e + 1 - k * (x + 1) = j then s k else 0
theorem yS_succ {l x n : Nat} {s : Nat → Nat} {e j : Nat} : yS l x n s (e + 1) j = yS l x n s e j + sN (yD l x s e j) n := by
  unfold yS
  rw [sN_add]
  refine sN_cong fun k hk => ?_
  unfold yD
  have e1 : ((e + 1 : Nat) : Int) = (e : Int) + 1 := by omega
  rw [e1]
  generalize (k : Int) * (x + 1) = w
  by_cases a : (l : Int) - w < j ∧ (j : Int) ≤ l + (e + 1) - w
  · rw [if_pos a]
    by_cases b : (j : Int) ≤ l + e - w
    · rw [if_pos ⟨a.1, b⟩, if_neg (by omega), Nat.add_zero]
    · rw [if_neg (fun q => b q.2), if_pos (by omega), Nat.zero_add]
  · rw [if_neg a, if_neg (fun q => a ⟨q.1, by omega⟩), if_neg (fun q => a ⟨by omega, by omega⟩)]
theorem yS_0 {l x n : Nat} {s : Nat → Nat} {j : Nat} : yS l x n s 0 j = 0 := by
  unfold yS
  rw [sN_cut (m := 0) (Nat.zero_le _) (fun k _ hk => if_neg (by omega))]
  rfl
theorem sN_le {p : Nat → Nat} {B : Nat} : ∀ {n : Nat}, (∀ k, k < n → p k ≤ B) → sN p n ≤ n * B
  | 0, _ => Nat.zero_le _
  | n + 1, h => by
    have a := sN_le (p := p) (n := n) (fun k hk => h k (by omega))
    have b := h n (by omega)
    rw [Nat.succ_mul]
    exact Nat.add_le_add a b
theorem yS_le {l x n : Nat} {s : Nat → Nat} {e j : Nat} (hs : ∀ k, k < n → s k ≤ 7) (hn : n ≤ 4) : yS l x n s e j ≤ 28 := by
  have := sN_le (p := fun k => if (l : Int) - k * (x + 1) < j ∧ (j : Int) ≤ l + e - k * (x + 1) then s k else 0) (n := n) (B := 7) (fun k hk => by
    split
    · exact hs k hk
    · omega)
  unfold yS
  omega
theorem yD_le {l x n : Nat} {s : Nat → Nat} {e j : Nat} (hs : ∀ k, k < n → s k ≤ 7) (hn : n ≤ 4) {k : Nat} (hk : k ≤ n) : sN (yD l x s e j) k ≤ 28 := by
  have := sN_le (p := yD l x s e j) (n := k) (B := 7) (fun i hi => by
    unfold yD
    split
    · exact hs i (by omega)
    · omega)
  omega
/-- at the mile that truck k comes to next: what the trucks ahead of it leave there -/
theorem yS_at {l x n : Nat} {s : Nat → Nat} {e j k : Nat} (hk : k < n) (hj : (l : Int) + e + 1 - k * (x + 1) = j) : yS l x n s e j = sN (fun i => if (j : Int) ≤ l - i * (x + 1) then 0 else s i) k := by
  unfold yS
  have lin : ∀ i, (i < k → (i : Int) * (x + 1) + 1 ≤ k * (x + 1)) ∧ (k ≤ i → (k : Int) * (x + 1) ≤ i * (x + 1)) := by
    intro i
    constructor
    · intro h
      have h1 : (i + 1) * (x + 1) ≤ k * (x + 1) := Nat.mul_le_mul_right _ h
      have h2 : (((i + 1) * (x + 1) : Nat) : Int) ≤ ((k * (x + 1) : Nat) : Int) := Int.ofNat_le.mpr h1
      rw [Nat.succ_mul] at h2
      push_cast at h2
      omega
    · intro h
      have h1 : k * (x + 1) ≤ i * (x + 1) := Nat.mul_le_mul_right _ h
      have h2 : ((k * (x + 1) : Nat) : Int) ≤ ((i * (x + 1) : Nat) : Int) := Int.ofNat_le.mpr h1
      push_cast at h2
      exact h2
  rw [sN_cut (m := k) (by omega) (fun i h1 _ => if_neg (by
    have := (lin i).2 h1
    generalize (i : Int) * (x + 1) = w at *
    generalize (k : Int) * (x + 1) = w2 at *
    omega))]
  refine sN_cong fun i hi => ?_
  have := (lin i).1 hi
  generalize (i : Int) * (x + 1) = w at *
  generalize (k : Int) * (x + 1) = w2 at *
  by_cases q : (j : Int) ≤ l - w
  · rw [if_pos q, if_neg (by omega)]
  · rw [if_neg q, if_pos (by omega)]
/-- the road behind e rolls -/
abbrev AR (R f : Fl) (c l x e : Nat) (st cr s : Nat → Nat) : Prop :=
  (∀ i, ¬ (8 ≤ i ∧ i < 80) → i ≠ 4 → i ≠ oC c 2 → R i = f i) ∧ R (oC c 2) = nI (l + e) ∧ (∀ j i, j < 12 → (i = 0 ∨ i = 3 ∨ i = 4) → R (oM j i) = f (oM j i)) ∧ ∀ j, j < 12 → mS R (st j) (cr j) (yS l x (ncv f c) s e j) j
section ARS
variable {R : Fl} {c l x e : Nat} {st cr s : Nat → Nat}
theorem AR.out (h : AR R f c l x e st cr s) : ∀ i, ¬ (8 ≤ i ∧ i < 80) → i ≠ 4 → i ≠ oC c 2 → R i = f i := h.1
theorem AR.ld (h : AR R f c l x e st cr s) : R (oC c 2) = nI (l + e) := h.2.1
theorem AR.mi (h : AR R f c l x e st cr s) : ∀ j i, j < 12 → (i = 0 ∨ i = 3 ∨ i = 4) → R (oM j i) = f (oM j i) := h.2.2.1
theorem AR.ms (h : AR R f c l x e st cr s) : ∀ j, j < 12 → mS R (st j) (cr j) (yS l x (ncv f c) s e j) j := h.2.2.2
theorem AR.cv (h : AR R f c l x e st cr s) {d i : Nat} (hi : i < 16) (hd : d ≠ c ∨ i ≠ 2) : R (oC d i) = f (oC d i) := h.out _ (by unfold oC; omega) (by unfold oC; omega) (by unfold oC; omega)
theorem AR.nc (h : AR R f c l x e st cr s) {d : Nat} : ncv R d = ncv f d := by
  unfold ncv
  rw [h.cv (by decide) (Or.inr (by decide))]
theorem AR.tk (h : AR R f c l x e st cr s) {d i : Nat} (hi : i < 4) : tkF R d i = tkF f d i := by
  unfold tkF
  rw [h.cv (by omega) (Or.inr (by omega)), h.cv (by omega) (Or.inr (by omega)), h.cv (by omega) (Or.inr (by omega))]
theorem AR.ct (h : AR R f c l x e st cr s) : cnt R = cnt f := by
  unfold cnt
  rw [h.out 1 (by decide) (by decide) (by unfold oC; omega)]
theorem AR.next (h : AR R f c l x e st cr s) (hn : ncv f c ≤ 4) (hl : l + e + 1 < 1000) (hx : x < 1000) (ex : f (oC c 0) = nI x) (es : ∀ k, k < ncv f c → stn (tkF f c k) = nI (s k) ∧ s k ≤ 7) (hst : ∀ j, j < 12 → st j < 20 ∧ cr j ≤ 5) : AR (advF R c) f c l x (e + 1) st cr s := by
  have hml : ∀ k, mlF (advN R c k) c k = mw (nI (l + e + 1)) (nI x) k := by
    intro k
    unfold mlF
    rw [advN_ld, advN_c (Or.inr (by decide)) (by decide), h.ld, nI_add, h.cv (by decide) (Or.inr (by decide)), ex]
  have K : ∀ k, k ≤ ncv f c → ∀ j, j < 12 → (∀ i, (i = 0 ∨ i = 3 ∨ i = 4) → advN R c k (oM j i) = f (oM j i)) ∧ mS (advN R c k) (st j) (cr j) (yS l x (ncv f c) s e j + sN (yD l x s e j) k) j := by
    intro k
    induction k with
    | zero =>
      intro _ j hj
      have e0 : ∀ i, i < 6 → leadUp R c (oM j i) = R (oM j i) := fun i hi => leadUp_out (by unfold oM oC; omega)
      refine ⟨fun i hi => (e0 i (by omega)).trans (h.mi j i hj hi), ?_⟩
      obtain ⟨a, b⟩ := h.ms j hj
      exact ⟨(e0 2 (by decide)).trans a, (e0 1 (by decide)).trans b⟩
    | succ k ih =>
      intro hk j hj
      obtain ⟨i1, i2⟩ := ih (by omega) j hj
      have e4 : ∀ i, advN R c (k + 1) (oM j i) = stepA (advN R c k) c k (oM j i) := by
        intro i
        show stepF (advN R c k) c k (oM j i) = _
        unfold stepF
        split
        · exact pk_un (by unfold oM; omega)
        · rfl
      have ekt : tkF (advN R c k) c k = tkF f c k := (advN_tk (by omega)).trans (h.tk (by omega))
      obtain ⟨es1, es2⟩ := es k (by omega)
      have key : (∀ i, (i = 0 ∨ i = 3 ∨ i = 4) → stepA (advN R c k) c k (oM j i) = f (oM j i)) ∧ mS (stepA (advN R c k) c k) (st j) (cr j) (yS l x (ncv f c) s e j + sN (yD l x s e j) (k + 1)) j := by
        have eyd : yD l x s e j k = if mw (nI (l + e + 1)) (nI x) k = nI j then s k else 0 := by
          have := mw_eq (l := l + e + 1) (x := x) (k := k) (m := j) hl hx (by omega) (by omega)
          unfold yD
          by_cases q : (l : Int) + e + 1 - k * (x + 1) = j
          · rw [if_pos q, if_pos (this.mpr (by push_cast; exact q))]
          · rw [if_neg q, if_neg (fun z => q (by have := this.mp z; push_cast at this; exact this))]
        show _ ∧ mS _ _ _ (_ + (sN (yD l x s e j) k + yD l x s e j k)) j
        rw [eyd]
        unfold stepA
        rw [hml, ekt, es1]
        by_cases q : isM (mw (nI (l + e + 1)) (nI x) k)
        · obtain ⟨j0, hj0, ej0⟩ := isM_nI q
          rw [if_pos q, ej0, nI_clamp (by omega)]
          by_cases z : j = j0
          · subst z
            rw [if_pos rfl]
            refine ⟨fun i hi => (carF_i hi).trans (i1 i hi), ?_⟩
            have := mS_car (s := s k) i2 (by omega) (hst j hj).1 (by
              have := yS_le (l := l) (x := x) (n := ncv f c) (s := s) (e := e) (j := j) (fun k hk => (es k hk).2) hn
              have := yD_le (l := l) (x := x) (n := ncv f c) (s := s) (e := e) (j := j) (fun k hk => (es k hk).2) hn (k := k) (by omega)
              omega) (hst j hj).2
            rw [← Nat.add_assoc]
            exact this
          · rw [if_neg (fun y => z ((nI_eq (by omega) (by omega)).mp y).symm)]
            refine ⟨fun i hi => (carF_j z (by omega)).trans (i1 i hi), ?_⟩
            exact ⟨(carF_j z (by decide)).trans i2.1, (carF_j z (by decide)).trans i2.2⟩
        · rw [if_neg q, if_neg (fun y => q (by rw [y]; exact ⟨nI_pos' (by omega), nI_lt hj (by decide)⟩))]
          exact ⟨i1, i2⟩
      refine ⟨fun i hi => (e4 i).trans (key.1 i hi), (e4 2).trans key.2.1, (e4 1).trans key.2.2⟩
  have hk := K (ncv R c) (by rw [h.nc]; exact Nat.le_refl _)
  refine ⟨fun i a b d => ?_, ?_, fun j i hj hi => (hk j hj).1 i hi, fun j hj => ?_⟩
  · show advN R c (ncv R c) i = _
    rw [advN_out b a, leadUp_out d]
    exact h.out i a b d
  · show advN R c (ncv R c) (oC c 2) = _
    rw [advN_ld, h.ld, nI_add]
    rfl
  · have := (hk j hj).2
    rw [yS_succ]
    rw [h.nc] at this
    show mS (advN R c (ncv R c)) _ _ _ j
    rw [h.nc]
    exact this
end ARS
theorem way_0c {c : Nat} {ld : Int32} (h : way f c ld = (nI 0, nI 0)) : ∀ k, k < ncv f c → ¬ wk f c ld k := by
  intro k hk hb
  have hnb := way_0b h
  have hlt : fa_first (fun k => cb (wk f c ld k)) (ncv f c) < ncv f c := Classical.byContradiction fun q => by
    have := fa_first_no (fun k => cb (wk f c ld k)) (ncv f c) k (by omega)
    rw [cb_t hb] at this
    cases this
  have h1 := cb_iff.mp (fa_first_yes (fun k => cb (wk f c ld k)) _ hlt)
  rw [way_8 hnb hlt h1 (fun j hj q => by
    have := fa_first_no (fun k => cb (wk f c ld k)) (ncv f c) j hj
    rw [cb_t q] at this
    cases this)] at h
  exact absurd (Prod.mk.inj h).1 (nI_ne0 (by decide) (by decide))
/-- one step ahead is one roll -/
theorem AR.goes {R : Fl} {c l x e : Nat} {st cr s : Nat → Nat} (h : AR R f c l x e st cr s) (hi : iC f c) (el : f (oC c 2) = nI l) (ex : f (oC c 0) = nI x) (hx : x ≤ 3) (hn1 : 1 ≤ ncv f c) (hl : l + e ≤ 24) (es : ∀ k, k < ncv f c → stn (tkF f c k) = nI (s k) ∧ s k ≤ 7) (hst : ∀ j, j < 12 → st j < 20 ∧ cr j ≤ 5 ∧ f (oM j 2) = nI (st j) ∧ f (oM j 1) = nI (cr j)) : rollO R c = (nI 0, nI 0) ↔ goes f c e := by
  have hn := hi.2.2.1
  have hld0 : 0 ≤ R (oC c 2) := by rw [h.ld]; exact nI_pos' (by omega)
  have eR0 : R (oC c 0) = nI x := (h.cv (by decide) (Or.inr (by decide))).trans ex
  have hl0 : l0F f c = l := by unfold l0F; rw [el, nI_clamp (by omega)]
  have hg0 : gpF f c = x := by unfold gpF; rw [ex, nI_clamp (by omega)]
  have hdn : dnF R c ↔ lastF f c ≤ l + e := by
    unfold lastF
    rw [hg0]
    have e1 : (((ncv f c - 1) * (x + 1) : Nat) : Int) = ((ncv f c - 1 : Nat) : Int) * (x + 1) := by push_cast; rfl
    constructor
    · rintro ⟨-, hd⟩
      rw [h.nc] at hd
      have := of_decide_eq_true (fb_ct_all.mp hd (ncv f c - 1) (by omega))
      rw [mt_st hld0, h.ld, eR0, mw_le (by omega) (by omega) (by omega) (by omega)] at this
      push_cast at this
      omega
    · intro hd
      refine ⟨hld0, ?_⟩
      rw [h.nc]
      refine fb_ct_all.mpr fun k hk => decide_eq_true ?_
      rw [mt_st hld0, h.ld, eR0, mw_le (by omega) (by omega) (by omega) (by omega)]
      have a : k * (x + 1) ≤ (ncv f c - 1) * (x + 1) := Nat.mul_le_mul_right _ (by omega)
      have b : ((k * (x + 1) : Nat) : Int) ≤ ((ncv f c - 1) * (x + 1) : Nat) := Int.ofNat_le.mpr a
      push_cast at b
      push_cast
      omega
  have hld1 : R (oC c 2) + nI 1 = nI (l + e + 1) := by rw [h.ld, nI_add]
  have hbk : ∀ k, bk R c (nI (l + e + 1)) k ↔ isM (mw (nI (l + e + 1)) (f (oC c 0)) k) ∧ tkn f (mw (nI (l + e + 1)) (f (oC c 0)) k) (nI c) := by
    intro k
    unfold bk
    rw [eR0, ex]
    have : ∀ m, tkn R m (nI c) ↔ tkn f m (nI c) := by
      intro m
      have ep : ∀ d, d ≠ c → paF R d m = paF f d m := by
        intro d hd
        unfold paF
        rw [h.nc, h.cv (by decide) (Or.inl hd), h.cv (by decide) (Or.inl hd)]
      constructor
      · rintro ⟨d, h1, h2, h3⟩
        have hd : d ≠ c := fun q => h2 (by rw [q])
        rw [h.ct] at h1
        rw [ep d hd] at h3
        exact ⟨d, h1, h2, h3⟩
      · rintro ⟨d, h1, h2, h3⟩
        have hd : d ≠ c := fun q => h2 (by rw [q])
        exact ⟨d, by rw [h.ct]; exact h1, h2, by rw [ep d hd]; exact h3⟩
    rw [this]
  have hwk : ∀ k, k < ncv f c → (wk R c (nI (l + e + 1)) k ↔ isM (mw (nI (l + e + 1)) (f (oC c 0)) k) ∧ wk2 f c (nI (l + e + 1)) k) := by
    intro k hk
    unfold wk wk2
    rw [eR0, ex]
    refine and_congr_right fun hm => ?_
    obtain ⟨j, hj, ej⟩ := isM_nI hm
    rw [ej, nI_clamp (by omega), h.tk (by omega)]
    have hmw := (mw_eq (by omega) (by omega) (by omega) (by omega)).mp ej
    push_cast at hmw
    obtain ⟨t1, t2, t3, t4⟩ := hst j hj
    have esab : sab f c k (nI j) = nI (yS l x (ncv f c) s e j) := by
      rw [yS_at hk hmw]
      unfold sab
      refine sI_sN fun i hik => ?_
      rw [el, ex, mt_st (nI_pos' (by omega)), (es i (by omega)).1]
      have := mw_le (l := l) (x := x) (k := i) (m := j) (by omega) (by omega) (by omega) (by omega)
      by_cases q : (j : Int) ≤ (l : Int) - i * (x + 1)
      · rw [if_pos (this.mpr q), if_pos q]
      · rw [if_neg (fun z => q (this.mp z)), if_neg q]
    have hy := yS_le (l := l) (x := x) (n := ncv f c) (s := s) (e := e) (j := j) (fun k hk => (es k hk).2) hn
    have ecra : cra f j (sab f c k (nI j)) = R (oM j 1) := by
      rw [(h.ms j hj).2, esab]
      unfold cra
      rw [t3, t4, nI_add, pk_div (by omega) (by decide) (by decide), nI_add]
      generalize yS l x (ncv f c) s e j = Y at *
      by_cases q : 5 < cr j + (st j + Y) / 20
      · rw [if_pos (nI_lt q (by omega)), show min 5 (cr j + (st j + Y) / 20) = 5 by omega]
      · rw [if_neg (nI_nlt (by omega) (by decide)), show min 5 (cr j + (st j + Y) / 20) = cr j + (st j + Y) / 20 by omega]
    have ebd : bd R j = bdF f j (cra f j (sab f c k (nI j))) := by
      rw [ecra]
      unfold bd bdF gdF
      rw [h.mi j 3 hj (by omega), h.mi j 4 hj (by omega), h.out 0 (by decide) (by decide) (by unfold oC; omega), h.out 7 (by decide) (by decide) (by unfold oC; omega), h.out 6 (by decide) (by decide) (by unfold oC; omega)]
    rw [ebd]
  constructor
  · intro hr
    unfold rollO at hr
    rw [if_neg (fun z => z hld0)] at hr
    by_cases q : dnF R c
    · rw [if_pos q] at hr
      exact absurd (Prod.mk.inj hr).1 (nI_ne0 (by decide) (by decide))
    · rw [if_neg q, hld1] at hr
      have b := way_0b hr
      have w := way_0c hr
      rw [h.nc] at b w
      refine ⟨by rw [hl0]; exact Nat.lt_of_not_le (fun z => q (hdn.mpr z)), fun k hk hbad => ?_⟩
      rw [hl0] at hbad
      obtain ⟨b1, b2 | b2⟩ := hbad
      · exact b k hk ((hbk k).mpr ⟨b1, b2⟩)
      · exact w k hk ((hwk k hk).mpr ⟨b1, b2⟩)
  · rintro ⟨g1, g2⟩
    rw [hl0] at g1 g2
    unfold rollO
    rw [if_neg (fun z => z hld0), if_neg (fun z => absurd (hdn.mp z) (by omega)), hld1]
    refine way_0 (fun k hk z => ?_) (fun k hk z => ?_)
    · rw [h.nc] at hk
      obtain ⟨b1, b2⟩ := (hbk k).mp z
      exact g2 k hk ⟨b1, Or.inl b2⟩
    · rw [h.nc] at hk
      obtain ⟨b1, b2⟩ := (hwk k hk).mp z
      exact g2 k hk ⟨b1, Or.inr b2⟩
theorem ahead_roll {c d : Nat} (hI : InvB f) (hc : c < cnt f) (h0 : 0 ≤ f (oC c 2)) (h : aheadIs f c d) : d = rollN f c := by
  have hi := hI.cv hc
  obtain ⟨⟨x, x1, x2, ex⟩, -, hn, -, hok⟩ := id hi
  obtain ⟨n1, l, hl, el⟩ := hi.go h0
  have es : ∀ k, k < ncv f c → stn (tkF f c k) = nI (stn (tkF f c k)).toNatClampNeg ∧ (stn (tkF f c k)).toNatClampNeg ≤ 7 := by
    intro k hk
    obtain ⟨n, hn, en⟩ := stn_nI (hok k hk)
    rw [en, nI_clamp (by omega)]
    exact ⟨rfl, hn⟩
  have hst : ∀ j, j < 12 → (f (oM j 2)).toNatClampNeg < 20 ∧ (f (oM j 1)).toNatClampNeg ≤ 5 ∧ f (oM j 2) = nI (f (oM j 2)).toNatClampNeg ∧ f (oM j 1) = nI (f (oM j 1)).toNatClampNeg := by
    intro j hj
    obtain ⟨-, -, ⟨a, ha, e1⟩, s, hs, e2⟩ := hI.2.2.2.1 j hj
    rw [e1, e2, nI_clamp (by omega), nI_clamp (by omega)]
    exact ⟨hs, ha, rfl, rfl⟩
  have hl0 : l0F f c = l := by unfold l0F; rw [el, nI_clamp (by omega)]
  have hg0 : gpF f c = x := by unfold gpF; rw [ex, nI_clamp (by omega)]
  have hlast : lastF f c ≤ 24 := by
    unfold lastF
    rw [hg0]
    have : (ncv f c - 1) * (x + 1) ≤ 3 * 4 := Nat.mul_le_mul (by omega) (by omega)
    omega
  have hle : ∀ e, e ≤ d → l + e ≤ 24 := by
    intro e he
    rcases Nat.eq_zero_or_pos e with z | z
    · omega
    · have := (h.1 (e - 1) (by omega)).1
      rw [hl0] at this
      omega
  have A : ∀ e, e ≤ d → AR (rollS f c e) f c l x e (fun j => (f (oM j 2)).toNatClampNeg) (fun j => (f (oM j 1)).toNatClampNeg) (fun k => (stn (tkF f c k)).toNatClampNeg) := by
    intro e
    induction e with
    | zero =>
      intro _
      refine ⟨fun _ _ _ _ => rfl, el, fun _ _ _ _ => rfl, fun j hj => ?_⟩
      obtain ⟨t1, t2, t3, t4⟩ := hst j hj
      rw [yS_0]
      refine ⟨?_, ?_⟩
      · show f (oM j 2) = _
        rw [Nat.add_zero, Nat.mod_eq_of_lt t1]
        exact t3
      · show f (oM j 1) = _
        rw [Nat.add_zero, Nat.div_eq_of_lt t1, Nat.add_zero, Nat.min_eq_right t2]
        exact t4
    | succ e ih =>
      intro he
      have hh := hle (e + 1) he
      exact (ih (by omega)).next hn (by omega) (by omega) ex es (fun j hj => ⟨(hst j hj).1, (hst j hj).2.1⟩)
  have G : ∀ e, e ≤ d → (rollO (rollS f c e) c = (nI 0, nI 0) ↔ goes f c e) := fun e he => (A e he).goes hi el ex (by omega) n1 (hle e he) es hst
  have hd := hle d (Nat.le_refl _)
  exact (fa_first_eq (by omega) (cb_t fun z => h.2 ((G d (Nat.le_refl _)).mp z)) (fun k hk => cb_f fun z => z ((G k (by omega)).mpr (h.1 k hk)))).symm
end AHEAD
section ROLLS
variable {E : gE} {M : gM} {P : gP} {sh sh' : Sh} {sz : Nat} {V V' : Vl} {cu su pc : Nat} {L : List (Option Value)} {rest : List Value} {x : Nat} {S : St} {f : Fl}
theorem m_rolls {c : Int32} (hC : CS sh V x S) (hI : InvB S.1) (hW : Wf sh sz) (hP : CP x sh sz V [xIO] (sp_rolls S c) P) : MC E YX6_rolls [.ref x, .int c] sh sz V P := by
  obtain ⟨o0, o1, o2, o3, o4, o5, o6, o7, o8⟩ := hC.1
  have hR : RoadAt sh V (x + 1) S.1 := hC.2.1
  have h44 := hI.1.2
  unfold sp_rolls at hP
  refine MC.of RX6 "rolls" rfl (by decide +kernel) rfl 0 [_, _] rfl (Nat.le_of_ble_eq_true rfl) ?_
  show G E MX6_rolls _ _ _ _ _ _ _ _ _
  refine g_aload_n dX6_rolls_0 rfl ?_
  refine g_get 8 rfl (by decide) inX6 0 (by decide) fl_X6_12 dX6_rolls_1 o0 o1 ?_
  refine g_iload_n dX6_rolls_4 rfl ?_
  refine g_callVp (Y := YX4_isConvoy) sv_X6_231 rfl yn_X4_isConvoy 6 (by decide) rfl rfl dX6_rolls_5 (c_isConvoy hR hI pR_ok) hR.1.1 rfl rfl rfl (Nat.le_of_ble_eq_true rfl) ⟨rfl, rfl⟩ ?_
  refine g_if_ne (tgt := 21) dX6_rolls_8 (by decide) (fun b1 => ?_) (fun b1 => ?_)
  rotate_left
  · rw [if_neg (bi_eq b1)] at hP
    refine g_throw (names := tn_IndexOutOfBoundsException) (text := "no such convoy") rfl (by decide +kernel) cl_X6_75 ini_IndexOutOfBoundsException (by decide +kernel) ta_X6_79 to_X6_79 dX6_rolls_11 dX6_rolls_14 dX6_rolls_15 dX6_rolls_17 dX6_rolls_20 rfl (by decide) (by decide) (by decide) (hP.thr hW hC rfl)
  rw [if_pos (bi_ne b1)] at hP
  obtain ⟨c, hc, rfl⟩ := isC_of hI (bi_ne b1)
  rw [nI_clamp (by omega)] at hP
  refine g_aload_n dX6_rolls_21 rfl ?_
  refine g_get 8 rfl (by decide) inX6 0 (by decide) fl_X6_12 dX6_rolls_22 o0 o1 ?_
  refine g_iload_n dX6_rolls_25 rfl ?_
  refine g_callVp (Y := YX4_countRollsAhead) sv_X6_267 rfl yn_X4_countRollsAhead 6 (by decide) rfl rfl dX6_rolls_26 (c_countRollsAhead (P := pR (some (.int (nI (rollN S.1 c)))) sh sz V) hR hI hc (fun h0 => ?_) (fun d h0 hd => by rw [ahead_roll hI hc h0 hd]; exact pR_ok)) hR.1.1 rfl rfl rfl (Nat.le_of_ble_eq_true rfl) ⟨rfl, rfl⟩ ?_
  rotate_left
  · exact g_iret rfl (nr_int _) dX6_rolls_29 (by decide) (hP.ret hW hC)
  · have : rollN S.1 c = 0 := by
      refine fa_first_eq (by decide) (cb_t ?_) (fun k hk => absurd hk (Nat.not_lt_zero k))
      show rollO S.1 c ≠ _
      unfold rollO
      rw [if_pos h0]
      exact fun q => absurd (Prod.mk.inj q).1 (nI_ne0 (by decide) (by decide))
    rw [this]
    exact pR_ok
end ROLLS

