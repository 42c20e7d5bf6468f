/-! the law's sums: purely -/
section LPURE2
variable {f g : Fl}
/-- convoy d, truck i is ahead of convoy c, truck k -/
def bf (f : Fl) (c k d i : Nat) : Prop := d < cnt f ∧ i < ncv f d ∧ (d < c ∨ d = c ∧ i < k)
/-- what the law notes of who is at a mile -/
def Oc (f : Fl) (c k : Nat) (th : Nat → Int32) : Prop := ∀ m, m < 12 → (th m = 0 ∧ ∀ d i, bf f c k d i → mt (f (oC d 2)) (f (oC d 0)) i ≠ nI m) ∨ ∃ d i, bf f c k d i ∧ mt (f (oC d 2)) (f (oC d 0)) i = nI m ∧ th m = nI (10 * d + i + 1000)
theorem Oc_0 : Oc f 0 0 (fun _ => 0) := fun m _ => Or.inl ⟨rfl, fun d i h => by rcases h.2.2 with q | ⟨-, q⟩ <;> omega⟩
theorem Oc_next {c : Nat} {th : Nat → Int32} (h : Oc f c (ncv f c) th) : Oc f (c + 1) 0 th := by
  have e : ∀ d i, bf f (c + 1) 0 d i ↔ bf f c (ncv f c) d i := fun d i => by
    unfold bf
    constructor
    · rintro ⟨a, b, q⟩
      refine ⟨a, b, ?_⟩
      rcases Nat.lt_or_ge d c with z | z
      · exact Or.inl z
      · have : d = c := by omega
        subst this
        exact Or.inr ⟨rfl, b⟩
    · rintro ⟨a, b, q⟩
      exact ⟨a, b, Or.inl (by omega)⟩
  intro m hm
  rcases h m hm with ⟨a, b⟩ | ⟨d, i, a, b⟩
  · exact Or.inl ⟨a, fun d i q => b d i ((e d i).mp q)⟩
  · exact Or.inr ⟨d, i, (e d i).mpr a, b⟩
theorem bf_up {c k d i : Nat} (h : bf f c (k + 1) d i) : bf f c k d i ∨ (d = c ∧ i = k) := by
  obtain ⟨a, b, q⟩ := h
  by_cases z : d = c ∧ i = k
  · exact Or.inr z
  · exact Or.inl ⟨a, b, by omega⟩
theorem bf_mono {c k d i : Nat} (h : bf f c k d i) : bf f c (k + 1) d i := ⟨h.1, h.2.1, by have := h.2.2; omega⟩
theorem Oc_skip {c k : Nat} {th : Nat → Int32} (h : Oc f c k th) (hn : ∀ m, m < 12 → mt (f (oC c 2)) (f (oC c 0)) k ≠ nI m) : Oc f c (k + 1) th := by
  intro m hm
  rcases h m hm with ⟨a, b⟩ | ⟨d, i, a, b⟩
  · refine Or.inl ⟨a, fun d i q => ?_⟩
    rcases bf_up q with z | ⟨rfl, rfl⟩
    · exact b d i z
    · exact hn m hm
  · exact Or.inr ⟨d, i, bf_mono a, b⟩
theorem Oc_free (hO : One f) {c k m : Nat} {th : Nat → Int32} (h : Oc f c k th) (hc : c < cnt f) (hk : k < ncv f c) (hm : m < 12) (e : mt (f (oC c 2)) (f (oC c 0)) k = nI m) : th m = 0 := by
  rcases h m hm with ⟨a, b⟩ | ⟨d, i, ⟨a1, a2, a3⟩, b, -⟩
  · exact a
  · have := hO c d k i m hc a1 hk a2 hm e b
    omega
theorem Oc_put (hI : InvB f) (hO : One f) {c k m : Nat} {th : Nat → Int32} (h : Oc f c k th) (hc : c < cnt f) (hk : k < ncv f c) (hm : m < 12) (e : mt (f (oC c 2)) (f (oC c 0)) k = nI m) : Oc f c (k + 1) (upd th m (nI (10 * c + k + 1000))) := by
  intro m2 hm2
  by_cases z : m2 = m
  · subst z
    exact Or.inr ⟨c, k, ⟨hc, hk, Or.inr ⟨rfl, Nat.lt_succ_self k⟩⟩, e, pk_us⟩
  · rw [pk_un z]
    rcases h m2 hm2 with ⟨a, b⟩ | ⟨d, i, a, b⟩
    · refine Or.inl ⟨a, fun d i q => ?_⟩
      rcases bf_up q with y | ⟨rfl, rfl⟩
      · exact b d i y
      · rw [e]
        exact fun y => z ((nI_eq (by omega) (by omega)).mp y).symm
    · exact Or.inr ⟨d, i, bf_mono a, b⟩
theorem Oc_end (hI : InvB f) (hO : One f) {m : Nat} {th : Nat → Int32} (h : Oc f (cnt f) 0 th) (hm : m < 12) : ¬ nI 1999 < th m ∧ atV f m = (if th m = 0 then -13 else th m - nI 1000) := by
  have h44 := hI.1.2
  rcases h m hm with ⟨a, b⟩ | ⟨d, i, ⟨a1, a2, a3⟩, b, e⟩
  · rw [a, if_pos rfl]
    exact ⟨by decide, at_none hI hO hm (fun c k hc hk => b c k ⟨hc, hk, Or.inl hc⟩)⟩
  · have h4 := (hI.cv a1).2.2.1
    rw [e, if_neg (nI_ne0 (by omega) (by omega)), pk_sub (by omega), at_occ hI hO a1 a2 hm b, show 10 * d + i + 1000 - 1000 = 10 * d + i by omega]
    exact ⟨nI_nlt (by omega) (by omega), rfl⟩
theorem nle11 (x : Int32) : ¬ x ≤ nI 11 ↔ nI 12 ≤ x := by
  rw [fa_le, fa_le, nI_toInt (by omega), nI_toInt (by omega)]
  omega
/-- what a truck brought, what it still has -/
def bwF (f : Fl) (c k : Nat) : Int32 := if nI 12 ≤ mt (f (oC c 2)) (f (oC c 0)) k then (tkF f c k).2.1 else nI 0
def uwF (f : Fl) (c k : Nat) : Int32 := if nI 12 ≤ mt (f (oC c 2)) (f (oC c 0)) k then nI 0 else (tkF f c k).2.1
def rwF (f : Fl) : Int32 := sI (fun k => f (oR k)) 10
def BR (f : Fl) (c : Nat) : Int32 := sI (fun d => sI (bwF f d) (ncv f d)) c
def TW (f : Fl) (c : Nat) : Int32 := rwF f + sI (fun d => sI (uwF f d) (ncv f d)) c
def wgF (f : Fl) (c : Nat) : Int32 := sI (fun k => (tkF f c k).2.1) (ncv f c)
/-- all that came, by the trucks -/
def InvW (f : Fl) : Prop := f 3 = rwF f + sI (wgF f) (cnt f)
theorem bw_uw (c k : Nat) : bwF f c k + uwF f c k = (tkF f c k).2.1 := by
  unfold bwF uwF
  split
  · exact add_nI0 _
  · exact Int32.zero_add _
theorem sI_ifn {p : Nat → Int32} {m : Nat} : ∀ {n : Nat}, m ≤ n → sI (fun k => if k < m then p k else nI 0) n = sI p m
  | 0, h => by
    obtain rfl : m = 0 := by omega
    rfl
  | n + 1, h => by
    rw [sI_succ]
    by_cases z : m ≤ n
    · rw [sI_ifn z, if_neg (by omega), add_nI0]
    · obtain rfl : m = n + 1 := by omega
      rw [if_pos (Nat.lt_succ_self n), sI_succ]
      congr 1
      exact sI_cong fun k hk => if_pos (by omega)
theorem TW_wait (hI : InvB f) : TW f (cnt f) = waitT f := by
  unfold TW waitT rwF
  congr 1
  refine sI_cong fun c hc => ?_
  exact (sI_ifn (p := uwF f c) (hI.cv hc).2.2.1).symm
theorem BR_4 (h : InvA f) (hW : InvW f) : BR f (cnt f) = f 4 := by
  have e1 : BR f (cnt f) + sI (fun d => sI (uwF f d) (ncv f d)) (cnt f) = sI (wgF f) (cnt f) := by
    unfold BR
    rw [sI_add]
    refine sI_cong fun c hc => ?_
    show sI (bwF f c) (ncv f c) + sI (uwF f c) (ncv f c) = wgF f c
    rw [sI_add]
    exact sI_cong fun k hk => bw_uw c k
  have e2 : f 3 = f 4 + waitT f := h.2.2
  rw [← TW_wait h.1] at e2
  unfold InvW at hW
  unfold TW at e2
  rw [hW, ← e1] at e2
  have e3 : BR f (cnt f) + (rwF f + sI (fun d => sI (uwF f d) (ncv f d)) (cnt f)) = f 4 + (rwF f + sI (fun d => sI (uwF f d) (ncv f d)) (cnt f)) := by
    rw [← e2]
    ac_rfl
  exact (Int32.add_left_inj _).mp e3
theorem dn_iff (hI : InvB f) {c : Nat} (hc : c < cnt f) : dnF f c ↔ (0 < arR f c ∧ arR f c = ncv f c) := by
  obtain ⟨g, g1, g2, eg, ⟨b, h⟩ | ⟨l, hl, h1, b, h⟩⟩ := mt_or hI hc
  · have e0 : arR f c = 0 := by
      unfold arR
      refine fb_ct_zero.mpr (fun k _ => decide_eq_false (fun q => ?_))
      rw [h k] at q
      exact absurd q (by decide)
    rw [e0]
    exact ⟨fun q => by
      have q1 : 0 ≤ f (oC c 2) := q.1
      rw [b] at q1
      exact absurd q1 (by decide), fun q => absurd q.1 (Nat.lt_irrefl 0)⟩
  · unfold dnF arR
    rw [b]
    exact ⟨fun q => ⟨by rw [q.2]; exact h1, q.2⟩, fun q => ⟨nI_pos' (by omega), q.2⟩⟩
def UN (f : Fl) (c : Nat) : Int32 := sI (fun d => bi (0 ≤ f (oC d 2) ∧ ¬ dnF f d)) c
theorem UN_eq : ∀ n, sI (fun d => bi (0 ≤ f (oC d 2))) n - sI (fun d => bi (dnF f d)) n = UN f n
  | 0 => by
    show (nI 0 - nI 0 : Int32) = nI 0
    decide
  | n + 1 => by
    have ih := UN_eq n
    unfold UN at ih ⊢
    rw [sI_succ, sI_succ, sI_succ, ← ih]
    have e : bi (0 ≤ f (oC n 2)) = bi (0 ≤ f (oC n 2) ∧ ¬ dnF f n) + bi (dnF f n) := by
      by_cases p : 0 ≤ f (oC n 2)
      · by_cases q : dnF f n
        · rw [bi_t p, bi_t q, bi_f (fun z => z.2 q)]; decide
        · rw [bi_t p, bi_f q, bi_t ⟨p, q⟩]; decide
      · rw [bi_f p, bi_f (fun z => p z.1), bi_f (fun z => p z.1)]; decide
    rw [e]
    generalize sI (fun d => bi (0 ≤ f (oC d 2))) n = a
    generalize sI (fun d => bi (dnF f d)) n = b
    generalize bi (0 ≤ f (oC n 2) ∧ ¬ dnF f n) = c
    generalize bi (dnF f n) = d
    rw [Int32.sub_eq_add_neg, Int32.sub_eq_add_neg, Int32.neg_add, Int32.sub_eq_add_neg]
    have : d + -d = 0 := Int32.add_right_neg d
    calc a + (c + d) + (-b + -d) = a + -b + c + (d + -d) := by ac_rfl
      _ = a + -b + c := by rw [this, Int32.add_zero]
/-! the loads are no NaN's -/
theorem bud_okN {t : Int32 × Int32 × Int32} (h : okT t) : okN (bud t) := by
  have A1 : ∀ w, w < 61 → okN (FP.i2f (nI w)) := by
    have : ∀ w : Fin 61, (FP.i2f (nI w.val)).toNat < 2139095040 := by decide +kernel
    exact fun w hw => this ⟨w, hw⟩
  have A2 : ∀ w, w < 61 → ∀ y, y < 7 → okN (FP.fadd (FP.i2f (nI w)) (FP.fmul 1056964608 (FP.i2f (nI y)))) := by
    have : ∀ w : Fin 61, ∀ y : Fin 7, (FP.fadd (FP.i2f (nI w.val)) (FP.fmul 1056964608 (FP.i2f (nI y.val)))).toNat < 2139095040 := by decide +kernel
    exact fun w hw y hy => this ⟨w, hw⟩ ⟨y, hy⟩
  obtain ⟨-, ⟨w, w1, w2, hw⟩, y, y1, y2, hy⟩ := h
  unfold bud
  rw [hw, hy]
  split
  · exact A1 w (by omega)
  · exact A2 w (by omega) y (by omega)
end LPURE2

