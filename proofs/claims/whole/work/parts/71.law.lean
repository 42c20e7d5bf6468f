/-! the law, case by case: what the class answers is what the reference answers -/
section LAW0
variable {E : gE} {M : gM} {P : gP} {sh sh' : Sh} {sz : Nat} {V V' : Vl} {cu su pc : Nat} {L : List (Option Value)} {rest : List Value} {m x : Nat} {S : St} {th : Int32} {tb : List ExceptionTableEntry} {nm : String}
abbrev ML_law (tb : List ExceptionTableEntry) (nm : String) : gM := (cL_law, 8, RL, some .boolean, tb, nm, room_1)
/-- what a call of the reference comes to -/
def P7 (sh : Sh) (m sz : Nat) (V : Vl) (q : Sp) : gP := fun o sh' sz' V' => sh' = sh ∧ sz' = sz ∧ ∃ w, Mf V V' m ∧ (q.1 = 0 → q.2.1 = .int w) ∧ MS sh V' m q.2.2 (nI q.1) ∧ o = .inl (some (.int w))
def P7F (sh : Sh) (m sz : Nat) (V : Vl) (q : Sp) : gP := fun o sh' sz' V' => sh' = sh ∧ sz' = sz ∧ ∃ w, Mf V V' m ∧ (q.1 = 0 → q.2.1 = .float w) ∧ MS sh V' m q.2.2 (nI q.1) ∧ o = .inl (some (.float w))
def P7L (sh : Sh) (m sz : Nat) (V : Vl) (q : Sp) : gP := fun o sh' sz' V' => sh' = sh ∧ sz' = sz ∧ ∃ w, Mf V V' m ∧ (q.1 = 0 → q.2.1 = .long w) ∧ MS sh V' m q.2.2 (nI q.1) ∧ o = .inl (some (.long w))
theorem p7 {q : Sp} : RI sh m sz V q (P7 sh m sz V q) := fun _ w h1 h2 h3 => ⟨rfl, rfl, w, h1, h2, h3, rfl⟩
theorem p7F {q : Sp} : RF sh m sz V q (P7F sh m sz V q) := fun _ w h1 h2 h3 => ⟨rfl, rfl, w, h1, h2, h3, rfl⟩
theorem p7L {q : Sp} : RLo sh m sz V q (P7L sh m sz V q) := fun _ w h1 h2 h3 => ⟨rfl, rfl, w, h1, h2, h3, rfl⟩
theorem MS.move (h : MS sh V m S th) (he : ∀ a, m ≤ a → a < m + 8 → sh' a = sh a ∧ V' a = V a) : MS sh' V' m S th := by
  obtain ⟨r, ⟨s0, s1, v0, s2⟩, ⟨⟨t2, t3, t4, t5, t6, t7⟩, ⟨u1, u2, u3, u4, u5, u6, u8, u9, u11, u12, u15, u16⟩, g, hh, tx, n8, n60⟩, w7, w10⟩ := h
  have e0 := he m (by omega) (by omega)
  have e1 := he (m + 1) (by omega) (by omega)
  have e2 := he (m + 2) (by omega) (by omega)
  have e3 := he (m + 3) (by omega) (by omega)
  have e4 := he (m + 4) (by omega) (by omega)
  have e5 := he (m + 5) (by omega) (by omega)
  have e6 := he (m + 6) (by omega) (by omega)
  have e7 := he (m + 7) (by omega) (by omega)
  refine ⟨r, ⟨?_, ?_, ?_, ?_⟩, ⟨⟨?_, ?_, ?_, ?_, ?_, ?_⟩, ?_, ?_, ?_, ?_, n8, n60⟩, ?_, ?_⟩
  · rw [e0.1]; exact s0
  · rw [e1.1]; exact s1
  · rw [e0.2]; exact v0
  · rw [e1.2]; exact s2
  · rw [e2.1]; exact t2
  · rw [e3.1]; exact t3
  · rw [e4.1]; exact t4
  · rw [e5.1]; exact t5
  · rw [e6.1]; exact t6
  · rw [e7.1]; exact t7
  · rw [e0.2]; exact ⟨u1, u2, u3, u4, u5, u6, u8, u9, u11, u12, u15, u16⟩
  · rw [e4.2]; exact g
  · rw [e5.2]; exact hh
  · rw [e6.2]; exact tx
  · rw [e0.2]; exact w7
  · rw [e0.2]; exact w10
theorem MS.n8 (h : MS sh V m S th) {a : Nat} (h1 : m ≤ a) (h2 : a < m + 8) : ¬ (sh a).1 = 8 := by
  obtain ⟨r, ⟨s0, s1, -, -⟩, ⟨⟨t2, t3, t4, t5, t6, t7⟩, -⟩, -⟩ := h
  rcases (show a = m ∨ a = m + 1 ∨ a = m + 2 ∨ a = m + 3 ∨ a = m + 4 ∨ a = m + 5 ∨ a = m + 6 ∨ a = m + 7 by omega) with rfl | rfl | rfl | rfl | rfl | rfl | rfl | rfl
  · rw [s0]; decide
  · rw [s1]; decide
  · rw [t2]; decide
  · rw [t3]; decide
  · rw [t4]; decide
  · rw [t5]; decide
  · rw [t6]; decide
  · rw [t7]; decide
theorem CS.aside {S' : St} (h : CS sh V x S) (hm : MS sh V' (x + 284) S' th) (hf : Mf V V' (x + 284)) : CS sh V' x S :=
  CAt.keep h (fun a h1 h2 => hf a (by omega)) (fun q hq => hf q (fun e => hm.n8 e.1 e.2 hq))
/-- what holds each time that the law's loop begins -/
def LI (E : gE) (sh : Sh) (sz : Nat) (V : Vl) (x : Nat) (S : St) : Prop := CS sh V x S ∧ InvS S ∧ (∃ th, MS sh V (x + 284) S th) ∧ Wf sh sz ∧ sh (x + 292) = (22, 1) ∧ sh (x + 293) = (23, 1) ∧ x + 294 ≤ sz ∧ E.2.2.2.2.2.2.1 ≤ 2560
theorem LI.next {q : St} {V1 V2 : Vl} {sh1 : Sh} {sz1 : Nat} (hL : LI E sh sz V x S) (h1 : Wo x (x + 292) sh sz V sh1 sz1 V1 ∨ Wo x (x + 293) sh sz V sh1 sz1 V1) (hc : CS sh1 V1 x q) (hm : MS sh1 V2 (x + 284) q th) (hf : Mf V1 V2 (x + 284)) (hI : InvS q) : LI E sh1 sz1 V2 x q := by
  obtain ⟨-, -, -, -, ho, hd, hsz, hlen⟩ := hL
  have hw : sz ≤ sz1 ∧ Wf sh1 sz1 ∧ ∀ a, a < sz → sh1 a = sh a := by
    rcases h1 with h | h <;> exact ⟨h.1, h.2.2, fun a ha => (h.2.1 a ha).1⟩
  exact ⟨hc.aside hm hf, hI, ⟨_, hm⟩, hw.2.1, (hw.2.2 _ (by omega)).trans ho, (hw.2.2 _ (by omega)).trans hd, by omega, hlen⟩
theorem LI.mod {V1 : Vl} {sh1 : Sh} {sz1 o : Nat} (hm : MS sh V (x + 284) S th) (hsz : x + 294 ≤ sz) (h1 : Wo x o sh sz V sh1 sz1 V1) (ho : x + 292 ≤ o) : MS sh1 V1 (x + 284) S th :=
  hm.move fun a h2 h3 => ⟨(h1.2.1 a (by omega)).1, (h1.2.1 a (by omega)).2 (by omega) (by omega)⟩
def LK (E : gE) (tb : List ExceptionTableEntry) (nm : String) (P : gP) (x i cu su : Nat) : Prop := ∀ sh' sz' V' S' z6 z7, LI E sh' sz' V' x S' → G E (ML_law tb nm) P sh' sz' V' (cu + 2) (su + 12) 2250 [some (.ref E.2.2.2.2.2.1), some (.ref x), some (.ref (x + 284)), some (.ref (x + 292)), some (.ref (x + 293)), some (.int (nI i)), z6, z7] []
theorem lroom {Y : gY} {a b : Nat} (h : (Nat.ble (Y.2.2.2.2.frames + 1) 19 && Nat.ble (8 + (Y.2.2.1 + 11) + Y.2.2.2.2.locals) 10804 && Nat.ble (a + Y.2.2.2.2.cells) 2 && Nat.ble (b + Y.2.2.2.2.slots) 12) = true) (hc : cu + 2 ≤ 603072) (hs : su + 12 ≤ 7215210) : gRoom Y (ML_law tb nm) (cu + a) (su + b) := by
  simp only [Bool.and_eq_true, Nat.ble_eq] at h
  obtain ⟨⟨⟨h1, h2⟩, h3⟩, h4⟩ := h
  refine ⟨h1, h2, ?_, ?_⟩
  · show cu + a + Y.2.2.2.2.cells ≤ 603072
    omega
  · show su + b + Y.2.2.2.2.slots ≤ 7215210
    omega
/-- the script -/
theorem g_sld {i : Int32} {k : Nat} (hdg : decode M.1 pc = .ok (.iaload, 1)) (hk : i = nI k) (hlt : k < E.2.2.2.2.2.2.1) (hlen : E.2.2.2.2.2.2.1 ≤ 2560) (kk : G E M P sh sz V cu su (pc + 1) L (.int (E.2.2.2.2.2.2.2 k) :: rest)) : G E M P sh sz V cu su pc L (.int i :: .ref E.2.2.2.2.2.1 :: rest) := by
  subst hk
  intro p e s m args below meth c C0 H locs ls D
  have hK := C0.2.2.2.2.2.2.2.2.2.1
  obtain ⟨⟨scr, h1, h2, h3, h4, h5⟩, hb⟩ := hK.2.2.2.2.2.2.2.1.2.1
  refine W.iald (v := .int (E.2.2.2.2.2.2.2 k)) C0.1 C0.2.1 (by rw [D.2.1.2.2.1 _ hb]; exact h1) h2 h3 (by rw [h4]; exact vp_in_nI hlt (by omega)) (by rw [nI_clamp (by omega)]; exact h5 _ hlt) rfl rfl hdg (kk p e s m args below meth c C0 H locs ls D)
theorem g_slen (hdg : decode M.1 pc = .ok (.arraylength, 1)) (kk : G E M P sh sz V cu su (pc + 1) L (.int (nI E.2.2.2.2.2.2.1) :: rest)) : G E M P sh sz V cu su pc L (.ref E.2.2.2.2.2.1 :: rest) := by
  intro p e s m args below meth c C0 H locs ls D
  have hK := C0.2.2.2.2.2.2.2.2.2.1
  obtain ⟨⟨scr, h1, h2, h3, h4, h5⟩, hb⟩ := hK.2.2.2.2.2.2.2.1.2.1
  refine W.alen (n := Int32.ofNat E.2.2.2.2.2.2.1) C0.1 C0.2.1 (by rw [D.2.1.2.2.1 _ hb]; exact h1) h2 (by rw [h4] <;> rfl) rfl rfl hdg (kk p e s m args below meth c C0 H locs ls D)
theorem nI_z {k : Nat} (hk : k ≤ 3) (h : nI k = 0) : k = 0 := by
  rcases Nat.eq_zero_or_pos k with z | z
  · exact z
  · exact absurd h (nI_ne0 z (by omega))
theorem lcmp_z {a b : Int64} (h : a = b) : lg_cmp a b = 0 := by
  subst h
  unfold lg_cmp
  first | (rw [if_neg (Int64.lt_irrefl), if_pos rfl]) | simp
theorem char_nar (a : Int32) : vp_nar .char (a.toUInt32 % 65536).toInt32 = (a.toUInt32 % 65536).toInt32 := by
  have h : ∀ u : UInt32, u.toNat < 65536 → u.toUInt16.toUInt32 = u := fun u h => UInt32.toNat_inj.mp (by
    rw [UInt16.toNat_toUInt32, UInt32.toNat_toUInt16]
    omega)
  rw [vp_nar_char]
  show ((a.toUInt32 % 65536).toUInt16.toUInt32).toInt32 = _
  rw [h _ (by rw [UInt32.toNat_mod]; show _ % 65536 < 65536; omega)]
end LAW0
section LAW1
variable {E : gE} {P : gP} {sh : Sh} {sz : Nat} {V : Vl} {cu su x i : Nat} {S : St} {z6 z7 : Option Value} {tb : List ExceptionTableEntry} {nm : String}

theorem b_set {w v : Int32} : (sp_set S w v).1 ≤ 3 := by
  unfold sp_set
  repeat' split
  all_goals first | exact Nat.zero_le _ | exact Nat.le_of_ble_eq_true rfl
set_option maxRecDepth 100000 in
theorem la_set (hL : LI E sh sz V x S) (hi : i + 5 ≤ E.2.2.2.2.2.2.1) (hc : cu + 2 ≤ 603072) (hs : su + 12 ≤ 7215210) (hk : LK E tb nm P x i cu su) : G E (ML_law tb nm) P sh sz V cu su 204 [some (.ref E.2.2.2.2.2.1), some (.ref x), some (.ref (x + 284)), some (.ref (x + 292)), some (.ref (x + 293)), some (.int (nI i)), z6, z7] [] := by
  obtain ⟨hC, hI, ⟨th, hM⟩, hW, ho, hd, hsz, hlen⟩ := id hL
  obtain ⟨q, hq⟩ : ∃ q, q = sp_set S (E.2.2.2.2.2.2.2 (i + 1)) (E.2.2.2.2.2.2.2 (i + 2)) := ⟨_, rfl⟩
  have hI2 : InvS q.2.2 := by rw [hq]; exact s_set hI
  have hb3 : q.1 ≤ 3 := by rw [hq]; exact b_set
  have hv : ∃ w, q.2.1 = .int w := by rw [hq]; exact v_set
  have hw : MCH E YL_set [(0, 10, 13, 13)] [.ref x, .int (E.2.2.2.2.2.2.2 (i + 1)), .int (E.2.2.2.2.2.2.2 (i + 2)), .ref (x + 292)] sh sz V (WI x (x + 292) sh sz V q) := by rw [hq]; exact w_set hC hI hW ho (by omega) (by omega)
  refine g_aload_n dL_law_204 rfl ?_
  refine g_aload_n dL_law_205 rfl ?_
  refine g_iload dL_law_206 rfl ?_
  refine g_iconst (v := nI 1) dL_law_208 (by decide) ?_
  refine g_iadd dL_law_209 ?_
  refine g_sld (k := i + 1) dL_law_210 (nI_add _ _) (by omega) hlen ?_
  refine g_aload_n dL_law_211 rfl ?_
  refine g_iload dL_law_212 rfl ?_
  refine g_iconst (v := nI 2) dL_law_214 (by decide) ?_
  refine g_iadd dL_law_215 ?_
  refine g_sld (k := i + 2) dL_law_216 (nI_add _ _) (by omega) hlen ?_
  refine g_aload_n dL_law_217 rfl ?_
  refine g_callSH (M := (ML_law tb nm)) (pc := 218) (Y := YL_set) (gIn_SH ml_L_130 wt_L_set ini_L wc_L_set) yn_L_set dL_law_218 hw rfl rfl (lroom (a := 0) (b := 0) rfl hc hs) (Nat.le_of_ble_eq_true rfl) (fun _ _ _ _ h => h.1.1) (fun _ _ _ _ h => nomatch h.2.2.2) ?_
  rintro v sh1 sz1 V1 ⟨hE1, hC1, hv1, hr⟩
  cases hr
  have hM1 : MS sh1 V1 (x + 284) S th := LI.mod hM hsz hE1 (by omega)
  have ho1 := ((hE1.2.1 (x + 292) (by omega)).1).trans ho
  have hr : MC E YX7_set_ [.ref (x + 284), .int (E.2.2.2.2.2.2.2 (i + 1)), .int (E.2.2.2.2.2.2.2 (i + 2))] sh1 sz1 V1 (P7 sh1 (x + 284) sz1 V1 q) := by rw [hq]; exact r_set hM1 p7
  refine g_istore dL_law_221 (Nat.le_of_ble_eq_true rfl) rfl ?_
  show G _ _ _ _ _ _ _ _ _ [_, _, _, _, _, _, _, _] _
  refine g_aload_n dL_law_223 rfl ?_
  refine g_aload_n dL_law_224 rfl ?_
  refine g_iload dL_law_225 rfl ?_
  refine g_iconst (v := nI 1) dL_law_227 (by decide) ?_
  refine g_iadd dL_law_228 ?_
  refine g_sld (k := i + 1) dL_law_229 (nI_add _ _) (by omega) hlen ?_
  refine g_aload_n dL_law_230 rfl ?_
  refine g_iload dL_law_231 rfl ?_
  refine g_iconst (v := nI 2) dL_law_233 (by decide) ?_
  refine g_iadd dL_law_234 ?_
  refine g_sld (k := i + 2) dL_law_235 (nI_add _ _) (by omega) hlen ?_
  refine g_callV (M := (ML_law tb nm)) (pc := 236) (Y := YX7_set_) sv_L_135 rfl yn_X7_set_ 9 (by decide) rfl rfl dL_law_236 hr (hM1.choose_spec.1.1) rfl rfl (lroom (a := 1) (b := 6) rfl hc hs) (Nat.le_of_ble_eq_true rfl) (fun _ _ _ _ h => Nat.le_of_eq h.2.1.symm) ?_ (fun _ _ _ _ h => by obtain ⟨-, -, w, -, -, -, h⟩ := h; exact nomatch h)
  rintro v sh2 sz2 V2 ⟨rfl, rfl, w2, hf2, hv2, hM2, hr2⟩
  cases hr2
  have hL2 : LI E sh2 sz2 V2 x q.2.2 := LI.next hL (Or.inl hE1) hC1 hM2 hf2 hI2
  refine g_istore dL_law_239 (Nat.le_of_ble_eq_true rfl) rfl ?_
  show G _ _ _ _ _ _ _ _ _ [_, _, _, _, _, _, _, _] _
  refine g_aload_n dL_law_241 rfl ?_
  refine g_callV (M := (ML_law tb nm)) (pc := 242) (Y := YX7_thrown) sv_L_136 rfl yn_X7_thrown 9 (by decide) rfl rfl dL_law_242 (r_thrown (E := E) hM2 (pR_ok (v := some (.int (nI q.1))))) (hM2.choose_spec.1.1) rfl rfl (lroom (a := 1) (b := 6) rfl hc hs) (Nat.le_of_ble_eq_true rfl) (fun _ _ _ _ h => Nat.le_of_eq h.2.2.1.symm) ?_ (fun _ _ _ _ h => nomatch h.1)
  rintro v sh3 sz3 V3 ⟨h3, rfl, rfl, rfl⟩
  cases h3
  refine g_iload dL_law_245 rfl ?_
  refine g_icmp_eq (tgt := 252) dL_law_247 (by decide) (fun _ => ?_) (fun hq => absurd (rfl) hq)
  refine g_iload dL_law_252 rfl ?_
  refine g_if_ne (tgt := 269) dL_law_254 (by decide) (fun bz => ?_) (fun bz => ?_)
  · refine g_jump (tgt := 2250) dL_law_269 (by decide) ?_
    exact g_widen (cu + 2) (su + 12) (by show cu + 1 + 0 + 0 ≤ cu + 2; omega) (by show su + 6 + 0 + 0 ≤ su + 12; omega) (hk _ _ _ _ _ _ hL2)
  · have q0 := nI_z hb3 bz
    obtain ⟨w, hw2⟩ := hv
    have e2 := hv2 q0
    rw [hw2] at e2
    cases e2
    have e3 : V3 (x + 292) 0 = .long w2.toInt64 := by rw [hf2 _ (by omega)]; exact hv1 w2 q0 hw2
    refine g_aload_n dL_law_257 rfl ?_
    refine g_iconst (v := nI 0) dL_law_258 (by decide) ?_
    refine g_laload dL_law_259 ho1 (vp_in_nI (by decide) (by decide)) (at_nI (by decide) e3) ?_
    refine g_iload dL_law_260 rfl ?_
    refine g_i2l dL_law_262 rfl ?_
    refine g_lcmp dL_law_263 ?_
    rw [lcmp_z rfl]
    refine g_if_eq (tgt := 269) dL_law_264 (by decide) (fun _ => ?_) (fun hq => absurd (rfl) hq)
    refine g_jump (tgt := 2250) dL_law_269 (by decide) ?_
    exact g_widen (cu + 2) (su + 12) (by show cu + 1 + 0 + 0 ≤ cu + 2; omega) (by show su + 6 + 0 + 0 ≤ su + 12; omega) (hk _ _ _ _ _ _ hL2)
theorem b_setting {w : Int32} : (sp_setting S w).1 ≤ 3 := by
  unfold sp_setting
  repeat' split
  all_goals first | exact Nat.zero_le _ | exact Nat.le_of_ble_eq_true rfl
theorem u_setting {w : Int32} : (sp_setting S w).2.2 = S := by
  unfold sp_setting
  repeat' split
  all_goals rfl
set_option maxRecDepth 100000 in
theorem la_setting (hL : LI E sh sz V x S) (hi : i + 5 ≤ E.2.2.2.2.2.2.1) (hc : cu + 2 ≤ 603072) (hs : su + 12 ≤ 7215210) (hk : LK E tb nm P x i cu su) : G E (ML_law tb nm) P sh sz V cu su 272 [some (.ref E.2.2.2.2.2.1), some (.ref x), some (.ref (x + 284)), some (.ref (x + 292)), some (.ref (x + 293)), some (.int (nI i)), z6, z7] [] := by
  obtain ⟨hC, hI, ⟨th, hM⟩, hW, ho, hd, hsz, hlen⟩ := id hL
  obtain ⟨q, hq⟩ : ∃ q, q = sp_setting S (E.2.2.2.2.2.2.2 (i + 1)) := ⟨_, rfl⟩
  have hI2 : InvS q.2.2 := by rw [hq]; rw [u_setting]; exact hI
  have hb3 : q.1 ≤ 3 := by rw [hq]; exact b_setting
  have hv : ∃ w, q.2.1 = .int w := by rw [hq]; exact v_setting
  have hw : MCH E YL_setting [(0, 9, 12, 13)] [.ref x, .int (E.2.2.2.2.2.2.2 (i + 1)), .ref (x + 292)] sh sz V (WI x (x + 292) sh sz V q) := by rw [hq]; exact w_setting hC hI hW ho (by omega) (by omega)
  refine g_aload_n dL_law_272 rfl ?_
  refine g_aload_n dL_law_273 rfl ?_
  refine g_iload dL_law_274 rfl ?_
  refine g_iconst (v := nI 1) dL_law_276 (by decide) ?_
  refine g_iadd dL_law_277 ?_
  refine g_sld (k := i + 1) dL_law_278 (nI_add _ _) (by omega) hlen ?_
  refine g_aload_n dL_law_279 rfl ?_
  refine g_callSH (M := (ML_law tb nm)) (pc := 280) (Y := YL_setting) (gIn_SH ml_L_139 wt_L_setting ini_L wc_L_setting) yn_L_setting dL_law_280 hw rfl rfl (lroom (a := 0) (b := 0) rfl hc hs) (Nat.le_of_ble_eq_true rfl) (fun _ _ _ _ h => h.1.1) (fun _ _ _ _ h => nomatch h.2.2.2) ?_
  rintro v sh1 sz1 V1 ⟨hE1, hC1, hv1, hr⟩
  cases hr
  have hM1 : MS sh1 V1 (x + 284) S th := LI.mod hM hsz hE1 (by omega)
  have ho1 := ((hE1.2.1 (x + 292) (by omega)).1).trans ho
  have hr : MC E YX7_setting [.ref (x + 284), .int (E.2.2.2.2.2.2.2 (i + 1))] sh1 sz1 V1 (P7 sh1 (x + 284) sz1 V1 q) := by rw [hq]; exact r_setting hM1 p7
  refine g_istore dL_law_283 (Nat.le_of_ble_eq_true rfl) rfl ?_
  show G _ _ _ _ _ _ _ _ _ [_, _, _, _, _, _, _, _] _
  refine g_aload_n dL_law_285 rfl ?_
  refine g_aload_n dL_law_286 rfl ?_
  refine g_iload dL_law_287 rfl ?_
  refine g_iconst (v := nI 1) dL_law_289 (by decide) ?_
  refine g_iadd dL_law_290 ?_
  refine g_sld (k := i + 1) dL_law_291 (nI_add _ _) (by omega) hlen ?_
  refine g_callV (M := (ML_law tb nm)) (pc := 292) (Y := YX7_setting) sv_L_142 rfl yn_X7_setting 9 (by decide) rfl rfl dL_law_292 hr (hM1.choose_spec.1.1) rfl rfl (lroom (a := 1) (b := 6) rfl hc hs) (Nat.le_of_ble_eq_true rfl) (fun _ _ _ _ h => Nat.le_of_eq h.2.1.symm) ?_ (fun _ _ _ _ h => by obtain ⟨-, -, w, -, -, -, h⟩ := h; exact nomatch h)
  rintro v sh2 sz2 V2 ⟨rfl, rfl, w2, hf2, hv2, hM2, hr2⟩
  cases hr2
  have hL2 : LI E sh2 sz2 V2 x q.2.2 := LI.next hL (Or.inl hE1) hC1 hM2 hf2 hI2
  refine g_istore dL_law_295 (Nat.le_of_ble_eq_true rfl) rfl ?_
  show G _ _ _ _ _ _ _ _ _ [_, _, _, _, _, _, _, _] _
  refine g_aload_n dL_law_297 rfl ?_
  refine g_callV (M := (ML_law tb nm)) (pc := 298) (Y := YX7_thrown) sv_L_136 rfl yn_X7_thrown 9 (by decide) rfl rfl dL_law_298 (r_thrown (E := E) hM2 (pR_ok (v := some (.int (nI q.1))))) (hM2.choose_spec.1.1) rfl rfl (lroom (a := 1) (b := 6) rfl hc hs) (Nat.le_of_ble_eq_true rfl) (fun _ _ _ _ h => Nat.le_of_eq h.2.2.1.symm) ?_ (fun _ _ _ _ h => nomatch h.1)
  rintro v sh3 sz3 V3 ⟨h3, rfl, rfl, rfl⟩
  cases h3
  refine g_iload dL_law_301 rfl ?_
  refine g_icmp_eq (tgt := 308) dL_law_303 (by decide) (fun _ => ?_) (fun hq => absurd (rfl) hq)
  refine g_iload dL_law_308 rfl ?_
  refine g_if_ne (tgt := 325) dL_law_310 (by decide) (fun bz => ?_) (fun bz => ?_)
  · refine g_jump (tgt := 2250) dL_law_325 (by decide) ?_
    exact g_widen (cu + 2) (su + 12) (by show cu + 1 + 0 + 0 ≤ cu + 2; omega) (by show su + 6 + 0 + 0 ≤ su + 12; omega) (hk _ _ _ _ _ _ hL2)
  · have q0 := nI_z hb3 bz
    obtain ⟨w, hw2⟩ := hv
    have e2 := hv2 q0
    rw [hw2] at e2
    cases e2
    have e3 : V3 (x + 292) 0 = .long w2.toInt64 := by rw [hf2 _ (by omega)]; exact hv1 w2 q0 hw2
    refine g_aload_n dL_law_313 rfl ?_
    refine g_iconst (v := nI 0) dL_law_314 (by decide) ?_
    refine g_laload dL_law_315 ho1 (vp_in_nI (by decide) (by decide)) (at_nI (by decide) e3) ?_
    refine g_iload dL_law_316 rfl ?_
    refine g_i2l dL_law_318 rfl ?_
    refine g_lcmp dL_law_319 ?_
    rw [lcmp_z rfl]
    refine g_if_eq (tgt := 325) dL_law_320 (by decide) (fun _ => ?_) (fun hq => absurd (rfl) hq)
    refine g_jump (tgt := 2250) dL_law_325 (by decide) ?_
    exact g_widen (cu + 2) (su + 12) (by show cu + 1 + 0 + 0 ≤ cu + 2; omega) (by show su + 6 + 0 + 0 ≤ su + 12; omega) (hk _ _ _ _ _ _ hL2)
theorem b_drill {a : Int32} : (sp_drill S a).1 ≤ 3 := by
  unfold sp_drill
  repeat' split
  all_goals first | exact Nat.zero_le _ | exact Nat.le_of_ble_eq_true rfl
set_option maxRecDepth 100000 in
theorem la_drill (hL : LI E sh sz V x S) (hi : i + 5 ≤ E.2.2.2.2.2.2.1) (hc : cu + 2 ≤ 603072) (hs : su + 12 ≤ 7215210) (hk : LK E tb nm P x i cu su) : G E (ML_law tb nm) P sh sz V cu su 328 [some (.ref E.2.2.2.2.2.1), some (.ref x), some (.ref (x + 284)), some (.ref (x + 292)), some (.ref (x + 293)), some (.int (nI i)), z6, z7] [] := by
  obtain ⟨hC, hI, ⟨th, hM⟩, hW, ho, hd, hsz, hlen⟩ := id hL
  obtain ⟨q, hq⟩ : ∃ q, q = sp_drill S (E.2.2.2.2.2.2.2 (i + 1)) := ⟨_, rfl⟩
  have hI2 : InvS q.2.2 := by rw [hq]; exact s_drill hI
  have hb3 : q.1 ≤ 3 := by rw [hq]; exact b_drill
  have hv : ∃ w, q.2.1 = .int w := by rw [hq]; exact v_drill
  have hw : MCH E YL_drill [(0, 9, 12, 22)] [.ref x, .int (E.2.2.2.2.2.2.2 (i + 1)), .ref (x + 292)] sh sz V (WI x (x + 292) sh sz V q) := by rw [hq]; exact w_drill hC hI hW ho (by omega) (by omega)
  refine g_aload_n dL_law_328 rfl ?_
  refine g_aload_n dL_law_329 rfl ?_
  refine g_iload dL_law_330 rfl ?_
  refine g_iconst (v := nI 1) dL_law_332 (by decide) ?_
  refine g_iadd dL_law_333 ?_
  refine g_sld (k := i + 1) dL_law_334 (nI_add _ _) (by omega) hlen ?_
  refine g_aload_n dL_law_335 rfl ?_
  refine g_callSH (M := (ML_law tb nm)) (pc := 336) (Y := YL_drill) (gIn_SH ml_L_143 wt_L_drill ini_L wc_L_drill) yn_L_drill dL_law_336 hw rfl rfl (lroom (a := 0) (b := 0) rfl hc hs) (Nat.le_of_ble_eq_true rfl) (fun _ _ _ _ h => h.1.1) (fun _ _ _ _ h => nomatch h.2.2.2) ?_
  rintro v sh1 sz1 V1 ⟨hE1, hC1, hv1, hr⟩
  cases hr
  have hM1 : MS sh1 V1 (x + 284) S th := LI.mod hM hsz hE1 (by omega)
  have ho1 := ((hE1.2.1 (x + 292) (by omega)).1).trans ho
  have hr : MC E YX7_drill [.ref (x + 284), .int (E.2.2.2.2.2.2.2 (i + 1))] sh1 sz1 V1 (P7 sh1 (x + 284) sz1 V1 q) := by rw [hq]; exact r_drill hM1 p7
  refine g_istore dL_law_339 (Nat.le_of_ble_eq_true rfl) rfl ?_
  show G _ _ _ _ _ _ _ _ _ [_, _, _, _, _, _, _, _] _
  refine g_aload_n dL_law_341 rfl ?_
  refine g_aload_n dL_law_342 rfl ?_
  refine g_iload dL_law_343 rfl ?_
  refine g_iconst (v := nI 1) dL_law_345 (by decide) ?_
  refine g_iadd dL_law_346 ?_
  refine g_sld (k := i + 1) dL_law_347 (nI_add _ _) (by omega) hlen ?_
  refine g_callV (M := (ML_law tb nm)) (pc := 348) (Y := YX7_drill) sv_L_145 rfl yn_X7_drill 9 (by decide) rfl rfl dL_law_348 hr (hM1.choose_spec.1.1) rfl rfl (lroom (a := 1) (b := 6) rfl hc hs) (Nat.le_of_ble_eq_true rfl) (fun _ _ _ _ h => Nat.le_of_eq h.2.1.symm) ?_ (fun _ _ _ _ h => by obtain ⟨-, -, w, -, -, -, h⟩ := h; exact nomatch h)
  rintro v sh2 sz2 V2 ⟨rfl, rfl, w2, hf2, hv2, hM2, hr2⟩
  cases hr2
  have hL2 : LI E sh2 sz2 V2 x q.2.2 := LI.next hL (Or.inl hE1) hC1 hM2 hf2 hI2
  refine g_istore dL_law_351 (Nat.le_of_ble_eq_true rfl) rfl ?_
  show G _ _ _ _ _ _ _ _ _ [_, _, _, _, _, _, _, _] _
  refine g_aload_n dL_law_353 rfl ?_
  refine g_callV (M := (ML_law tb nm)) (pc := 354) (Y := YX7_thrown) sv_L_136 rfl yn_X7_thrown 9 (by decide) rfl rfl dL_law_354 (r_thrown (E := E) hM2 (pR_ok (v := some (.int (nI q.1))))) (hM2.choose_spec.1.1) rfl rfl (lroom (a := 1) (b := 6) rfl hc hs) (Nat.le_of_ble_eq_true rfl) (fun _ _ _ _ h => Nat.le_of_eq h.2.2.1.symm) ?_ (fun _ _ _ _ h => nomatch h.1)
  rintro v sh3 sz3 V3 ⟨h3, rfl, rfl, rfl⟩
  cases h3
  refine g_iload dL_law_357 rfl ?_
  refine g_icmp_eq (tgt := 364) dL_law_359 (by decide) (fun _ => ?_) (fun hq => absurd (rfl) hq)
  refine g_iload dL_law_364 rfl ?_
  refine g_if_ne (tgt := 381) dL_law_366 (by decide) (fun bz => ?_) (fun bz => ?_)
  · refine g_jump (tgt := 2250) dL_law_381 (by decide) ?_
    exact g_widen (cu + 2) (su + 12) (by show cu + 1 + 0 + 0 ≤ cu + 2; omega) (by show su + 6 + 0 + 0 ≤ su + 12; omega) (hk _ _ _ _ _ _ hL2)
  · have q0 := nI_z hb3 bz
    obtain ⟨w, hw2⟩ := hv
    have e2 := hv2 q0
    rw [hw2] at e2
    cases e2
    have e3 : V3 (x + 292) 0 = .long w2.toInt64 := by rw [hf2 _ (by omega)]; exact hv1 w2 q0 hw2
    refine g_aload_n dL_law_369 rfl ?_
    refine g_iconst (v := nI 0) dL_law_370 (by decide) ?_
    refine g_laload dL_law_371 ho1 (vp_in_nI (by decide) (by decide)) (at_nI (by decide) e3) ?_
    refine g_iload dL_law_372 rfl ?_
    refine g_i2l dL_law_374 rfl ?_
    refine g_lcmp dL_law_375 ?_
    rw [lcmp_z rfl]
    refine g_if_eq (tgt := 381) dL_law_376 (by decide) (fun _ => ?_) (fun hq => absurd (rfl) hq)
    refine g_jump (tgt := 2250) dL_law_381 (by decide) ?_
    exact g_widen (cu + 2) (su + 12) (by show cu + 1 + 0 + 0 ≤ cu + 2; omega) (by show su + 6 + 0 + 0 ≤ su + 12; omega) (hk _ _ _ _ _ _ hL2)
theorem b_drilled {a : Int32} : (sp_drilled S a).1 ≤ 3 := by
  unfold sp_drilled
  repeat' split
  all_goals first | exact Nat.zero_le _ | exact Nat.le_of_ble_eq_true rfl
theorem u_drilled {a : Int32} : (sp_drilled S a).2.2 = S := by
  unfold sp_drilled
  repeat' split
  all_goals rfl
set_option maxRecDepth 100000 in
theorem la_drilled (hL : LI E sh sz V x S) (hi : i + 5 ≤ E.2.2.2.2.2.2.1) (hc : cu + 2 ≤ 603072) (hs : su + 12 ≤ 7215210) (hk : LK E tb nm P x i cu su) : G E (ML_law tb nm) P sh sz V cu su 384 [some (.ref E.2.2.2.2.2.1), some (.ref x), some (.ref (x + 284)), some (.ref (x + 292)), some (.ref (x + 293)), some (.int (nI i)), z6, z7] [] := by
  obtain ⟨hC, hI, ⟨th, hM⟩, hW, ho, hd, hsz, hlen⟩ := id hL
  obtain ⟨q, hq⟩ : ∃ q, q = sp_drilled S (E.2.2.2.2.2.2.2 (i + 1)) := ⟨_, rfl⟩
  have hI2 : InvS q.2.2 := by rw [hq]; rw [u_drilled]; exact hI
  have hb3 : q.1 ≤ 3 := by rw [hq]; exact b_drilled
  have hv : ∃ w, q.2.1 = .int w := by rw [hq]; exact v_drilled
  have hw : MCH E YL_drilled [(0, 9, 12, 22), (0, 9, 15, 27)] [.ref x, .int (E.2.2.2.2.2.2.2 (i + 1)), .ref (x + 292)] sh sz V (WI x (x + 292) sh sz V q) := by rw [hq]; exact w_drilled hC hI hW ho (by omega) (by omega)
  refine g_aload_n dL_law_384 rfl ?_
  refine g_aload_n dL_law_385 rfl ?_
  refine g_iload dL_law_386 rfl ?_
  refine g_iconst (v := nI 1) dL_law_388 (by decide) ?_
  refine g_iadd dL_law_389 ?_
  refine g_sld (k := i + 1) dL_law_390 (nI_add _ _) (by omega) hlen ?_
  refine g_aload_n dL_law_391 rfl ?_
  refine g_callSH (M := (ML_law tb nm)) (pc := 392) (Y := YL_drilled) (gIn_SH ml_L_146 wt_L_drilled ini_L wc_L_drilled) yn_L_drilled dL_law_392 hw rfl rfl (lroom (a := 0) (b := 0) rfl hc hs) (Nat.le_of_ble_eq_true rfl) (fun _ _ _ _ h => h.1.1) (fun _ _ _ _ h => nomatch h.2.2.2) ?_
  rintro v sh1 sz1 V1 ⟨hE1, hC1, hv1, hr⟩
  cases hr
  have hM1 : MS sh1 V1 (x + 284) S th := LI.mod hM hsz hE1 (by omega)
  have ho1 := ((hE1.2.1 (x + 292) (by omega)).1).trans ho
  have hr : MC E YX7_drilled [.ref (x + 284), .int (E.2.2.2.2.2.2.2 (i + 1))] sh1 sz1 V1 (P7 sh1 (x + 284) sz1 V1 q) := by rw [hq]; exact r_drilled hM1 p7
  refine g_istore dL_law_395 (Nat.le_of_ble_eq_true rfl) rfl ?_
  show G _ _ _ _ _ _ _ _ _ [_, _, _, _, _, _, _, _] _
  refine g_aload_n dL_law_397 rfl ?_
  refine g_aload_n dL_law_398 rfl ?_
  refine g_iload dL_law_399 rfl ?_
  refine g_iconst (v := nI 1) dL_law_401 (by decide) ?_
  refine g_iadd dL_law_402 ?_
  refine g_sld (k := i + 1) dL_law_403 (nI_add _ _) (by omega) hlen ?_
  refine g_callV (M := (ML_law tb nm)) (pc := 404) (Y := YX7_drilled) sv_L_148 rfl yn_X7_drilled 9 (by decide) rfl rfl dL_law_404 hr (hM1.choose_spec.1.1) rfl rfl (lroom (a := 1) (b := 6) rfl hc hs) (Nat.le_of_ble_eq_true rfl) (fun _ _ _ _ h => Nat.le_of_eq h.2.1.symm) ?_ (fun _ _ _ _ h => by obtain ⟨-, -, w, -, -, -, h⟩ := h; exact nomatch h)
  rintro v sh2 sz2 V2 ⟨rfl, rfl, w2, hf2, hv2, hM2, hr2⟩
  cases hr2
  have hL2 : LI E sh2 sz2 V2 x q.2.2 := LI.next hL (Or.inl hE1) hC1 hM2 hf2 hI2
  refine g_istore dL_law_407 (Nat.le_of_ble_eq_true rfl) rfl ?_
  show G _ _ _ _ _ _ _ _ _ [_, _, _, _, _, _, _, _] _
  refine g_aload_n dL_law_409 rfl ?_
  refine g_callV (M := (ML_law tb nm)) (pc := 410) (Y := YX7_thrown) sv_L_136 rfl yn_X7_thrown 9 (by decide) rfl rfl dL_law_410 (r_thrown (E := E) hM2 (pR_ok (v := some (.int (nI q.1))))) (hM2.choose_spec.1.1) rfl rfl (lroom (a := 1) (b := 6) rfl hc hs) (Nat.le_of_ble_eq_true rfl) (fun _ _ _ _ h => Nat.le_of_eq h.2.2.1.symm) ?_ (fun _ _ _ _ h => nomatch h.1)
  rintro v sh3 sz3 V3 ⟨h3, rfl, rfl, rfl⟩
  cases h3
  refine g_iload dL_law_413 rfl ?_
  refine g_icmp_eq (tgt := 420) dL_law_415 (by decide) (fun _ => ?_) (fun hq => absurd (rfl) hq)
  refine g_iload dL_law_420 rfl ?_
  refine g_if_ne (tgt := 437) dL_law_422 (by decide) (fun bz => ?_) (fun bz => ?_)
  · refine g_jump (tgt := 2250) dL_law_437 (by decide) ?_
    exact g_widen (cu + 2) (su + 12) (by show cu + 1 + 0 + 0 ≤ cu + 2; omega) (by show su + 6 + 0 + 0 ≤ su + 12; omega) (hk _ _ _ _ _ _ hL2)
  · have q0 := nI_z hb3 bz
    obtain ⟨w, hw2⟩ := hv
    have e2 := hv2 q0
    rw [hw2] at e2
    cases e2
    have e3 : V3 (x + 292) 0 = .long w2.toInt64 := by rw [hf2 _ (by omega)]; exact hv1 w2 q0 hw2
    refine g_aload_n dL_law_425 rfl ?_
    refine g_iconst (v := nI 0) dL_law_426 (by decide) ?_
    refine g_laload dL_law_427 ho1 (vp_in_nI (by decide) (by decide)) (at_nI (by decide) e3) ?_
    refine g_iload dL_law_428 rfl ?_
    refine g_i2l dL_law_430 rfl ?_
    refine g_lcmp dL_law_431 ?_
    rw [lcmp_z rfl]
    refine g_if_eq (tgt := 437) dL_law_432 (by decide) (fun _ => ?_) (fun hq => absurd (rfl) hq)
    refine g_jump (tgt := 2250) dL_law_437 (by decide) ?_
    exact g_widen (cu + 2) (su + 12) (by show cu + 1 + 0 + 0 ≤ cu + 2; omega) (by show su + 6 + 0 + 0 ≤ su + 12; omega) (hk _ _ _ _ _ _ hL2)
theorem b_mileOf {a w : Int32} : (sp_mileOf S a w).1 ≤ 3 := by
  unfold sp_mileOf
  repeat' split
  all_goals first | exact Nat.zero_le _ | exact Nat.le_of_ble_eq_true rfl
theorem u_mileOf {a w : Int32} : (sp_mileOf S a w).2.2 = S := by
  unfold sp_mileOf
  repeat' split
  all_goals rfl
set_option maxRecDepth 100000 in
theorem la_mileOf (hL : LI E sh sz V x S) (hi : i + 5 ≤ E.2.2.2.2.2.2.1) (hc : cu + 2 ≤ 603072) (hs : su + 12 ≤ 7215210) (hk : LK E tb nm P x i cu su) : G E (ML_law tb nm) P sh sz V cu su 440 [some (.ref E.2.2.2.2.2.1), some (.ref x), some (.ref (x + 284)), some (.ref (x + 292)), some (.ref (x + 293)), some (.int (nI i)), z6, z7] [] := by
  obtain ⟨hC, hI, ⟨th, hM⟩, hW, ho, hd, hsz, hlen⟩ := id hL
  obtain ⟨q, hq⟩ : ∃ q, q = sp_mileOf S (E.2.2.2.2.2.2.2 (i + 1)) (E.2.2.2.2.2.2.2 (i + 2)) := ⟨_, rfl⟩
  have hI2 : InvS q.2.2 := by rw [hq]; rw [u_mileOf]; exact hI
  have hb3 : q.1 ≤ 3 := by rw [hq]; exact b_mileOf
  have hv : ∃ w, q.2.1 = .int w := by rw [hq]; exact v_mileOf
  have hw : MCH E YL_mileOf [(0, 10, 13, 22), (0, 10, 17, 13)] [.ref x, .int (E.2.2.2.2.2.2.2 (i + 1)), .int (E.2.2.2.2.2.2.2 (i + 2)), .ref (x + 292)] sh sz V (WI x (x + 292) sh sz V q) := by rw [hq]; exact w_mileOf hC hI hW ho (by omega) (by omega)
  refine g_aload_n dL_law_440 rfl ?_
  refine g_aload_n dL_law_441 rfl ?_
  refine g_iload dL_law_442 rfl ?_
  refine g_iconst (v := nI 1) dL_law_444 (by decide) ?_
  refine g_iadd dL_law_445 ?_
  refine g_sld (k := i + 1) dL_law_446 (nI_add _ _) (by omega) hlen ?_
  refine g_aload_n dL_law_447 rfl ?_
  refine g_iload dL_law_448 rfl ?_
  refine g_iconst (v := nI 2) dL_law_450 (by decide) ?_
  refine g_iadd dL_law_451 ?_
  refine g_sld (k := i + 2) dL_law_452 (nI_add _ _) (by omega) hlen ?_
  refine g_aload_n dL_law_453 rfl ?_
  refine g_callSH (M := (ML_law tb nm)) (pc := 454) (Y := YL_mileOf) (gIn_SH ml_L_149 wt_L_mileOf ini_L wc_L_mileOf) yn_L_mileOf dL_law_454 hw rfl rfl (lroom (a := 0) (b := 0) rfl hc hs) (Nat.le_of_ble_eq_true rfl) (fun _ _ _ _ h => h.1.1) (fun _ _ _ _ h => nomatch h.2.2.2) ?_
  rintro v sh1 sz1 V1 ⟨hE1, hC1, hv1, hr⟩
  cases hr
  have hM1 : MS sh1 V1 (x + 284) S th := LI.mod hM hsz hE1 (by omega)
  have ho1 := ((hE1.2.1 (x + 292) (by omega)).1).trans ho
  have hr : MC E YX7_mileOf [.ref (x + 284), .int (E.2.2.2.2.2.2.2 (i + 1)), .int (E.2.2.2.2.2.2.2 (i + 2))] sh1 sz1 V1 (P7 sh1 (x + 284) sz1 V1 q) := by rw [hq]; exact r_mileOf hM1 p7
  refine g_istore dL_law_457 (Nat.le_of_ble_eq_true rfl) rfl ?_
  show G _ _ _ _ _ _ _ _ _ [_, _, _, _, _, _, _, _] _
  refine g_aload_n dL_law_459 rfl ?_
  refine g_aload_n dL_law_460 rfl ?_
  refine g_iload dL_law_461 rfl ?_
  refine g_iconst (v := nI 1) dL_law_463 (by decide) ?_
  refine g_iadd dL_law_464 ?_
  refine g_sld (k := i + 1) dL_law_465 (nI_add _ _) (by omega) hlen ?_
  refine g_aload_n dL_law_466 rfl ?_
  refine g_iload dL_law_467 rfl ?_
  refine g_iconst (v := nI 2) dL_law_469 (by decide) ?_
  refine g_iadd dL_law_470 ?_
  refine g_sld (k := i + 2) dL_law_471 (nI_add _ _) (by omega) hlen ?_
  refine g_callV (M := (ML_law tb nm)) (pc := 472) (Y := YX7_mileOf) sv_L_151 rfl yn_X7_mileOf 9 (by decide) rfl rfl dL_law_472 hr (hM1.choose_spec.1.1) rfl rfl (lroom (a := 1) (b := 6) rfl hc hs) (Nat.le_of_ble_eq_true rfl) (fun _ _ _ _ h => Nat.le_of_eq h.2.1.symm) ?_ (fun _ _ _ _ h => by obtain ⟨-, -, w, -, -, -, h⟩ := h; exact nomatch h)
  rintro v sh2 sz2 V2 ⟨rfl, rfl, w2, hf2, hv2, hM2, hr2⟩
  cases hr2
  have hL2 : LI E sh2 sz2 V2 x q.2.2 := LI.next hL (Or.inl hE1) hC1 hM2 hf2 hI2
  refine g_istore dL_law_475 (Nat.le_of_ble_eq_true rfl) rfl ?_
  show G _ _ _ _ _ _ _ _ _ [_, _, _, _, _, _, _, _] _
  refine g_aload_n dL_law_477 rfl ?_
  refine g_callV (M := (ML_law tb nm)) (pc := 478) (Y := YX7_thrown) sv_L_136 rfl yn_X7_thrown 9 (by decide) rfl rfl dL_law_478 (r_thrown (E := E) hM2 (pR_ok (v := some (.int (nI q.1))))) (hM2.choose_spec.1.1) rfl rfl (lroom (a := 1) (b := 6) rfl hc hs) (Nat.le_of_ble_eq_true rfl) (fun _ _ _ _ h => Nat.le_of_eq h.2.2.1.symm) ?_ (fun _ _ _ _ h => nomatch h.1)
  rintro v sh3 sz3 V3 ⟨h3, rfl, rfl, rfl⟩
  cases h3
  refine g_iload dL_law_481 rfl ?_
  refine g_icmp_eq (tgt := 488) dL_law_483 (by decide) (fun _ => ?_) (fun hq => absurd (rfl) hq)
  refine g_iload dL_law_488 rfl ?_
  refine g_if_ne (tgt := 505) dL_law_490 (by decide) (fun bz => ?_) (fun bz => ?_)
  · refine g_jump (tgt := 2250) dL_law_505 (by decide) ?_
    exact g_widen (cu + 2) (su + 12) (by show cu + 1 + 0 + 0 ≤ cu + 2; omega) (by show su + 6 + 0 + 0 ≤ su + 12; omega) (hk _ _ _ _ _ _ hL2)
  · have q0 := nI_z hb3 bz
    obtain ⟨w, hw2⟩ := hv
    have e2 := hv2 q0
    rw [hw2] at e2
    cases e2
    have e3 : V3 (x + 292) 0 = .long w2.toInt64 := by rw [hf2 _ (by omega)]; exact hv1 w2 q0 hw2
    refine g_aload_n dL_law_493 rfl ?_
    refine g_iconst (v := nI 0) dL_law_494 (by decide) ?_
    refine g_laload dL_law_495 ho1 (vp_in_nI (by decide) (by decide)) (at_nI (by decide) e3) ?_
    refine g_iload dL_law_496 rfl ?_
    refine g_i2l dL_law_498 rfl ?_
    refine g_lcmp dL_law_499 ?_
    rw [lcmp_z rfl]
    refine g_if_eq (tgt := 505) dL_law_500 (by decide) (fun _ => ?_) (fun hq => absurd (rfl) hq)
    refine g_jump (tgt := 2250) dL_law_505 (by decide) ?_
    exact g_widen (cu + 2) (su + 12) (by show cu + 1 + 0 + 0 ≤ cu + 2; omega) (by show su + 6 + 0 + 0 ≤ su + 12; omega) (hk _ _ _ _ _ _ hL2)
theorem b_ice {a : Int32} : (sp_ice S a).1 ≤ 3 := by
  unfold sp_ice
  repeat' split
  all_goals first | exact Nat.zero_le _ | exact Nat.le_of_ble_eq_true rfl
theorem u_ice {a : Int32} : (sp_ice S a).2.2 = S := by
  unfold sp_ice
  repeat' split
  all_goals rfl
set_option maxRecDepth 100000 in
theorem la_ice (hL : LI E sh sz V x S) (hi : i + 5 ≤ E.2.2.2.2.2.2.1) (hc : cu + 2 ≤ 603072) (hs : su + 12 ≤ 7215210) (hk : LK E tb nm P x i cu su) : G E (ML_law tb nm) P sh sz V cu su 508 [some (.ref E.2.2.2.2.2.1), some (.ref x), some (.ref (x + 284)), some (.ref (x + 292)), some (.ref (x + 293)), some (.int (nI i)), z6, z7] [] := by
  obtain ⟨hC, hI, ⟨th, hM⟩, hW, ho, hd, hsz, hlen⟩ := id hL
  obtain ⟨q, hq⟩ : ∃ q, q = sp_ice S (E.2.2.2.2.2.2.2 (i + 1)) := ⟨_, rfl⟩
  have hI2 : InvS q.2.2 := by rw [hq]; rw [u_ice]; exact hI
  have hb3 : q.1 ≤ 3 := by rw [hq]; exact b_ice
  have hv : q.1 = 0 → ∃ w, q.2.1 = .float w ∧ vf_n32 w := by rw [hq]; exact v_ice hI.1.1
  have hw : MCH E YL_ice [(0, 9, 12, 22)] [.ref x, .int (E.2.2.2.2.2.2.2 (i + 1)), .ref (x + 293)] sh sz V (WF x (x + 293) sh sz V q) := by rw [hq]; exact w_ice hC hI hW hd (by omega) (by omega)
  refine g_aload_n dL_law_508 rfl ?_
  refine g_aload_n dL_law_509 rfl ?_
  refine g_iload dL_law_510 rfl ?_
  refine g_iconst (v := nI 1) dL_law_512 (by decide) ?_
  refine g_iadd dL_law_513 ?_
  refine g_sld (k := i + 1) dL_law_514 (nI_add _ _) (by omega) hlen ?_
  refine g_aload dL_law_515 rfl ?_
  refine g_callSH (M := (ML_law tb nm)) (pc := 517) (Y := YL_ice) (gIn_SH ml_L_152 wt_L_ice ini_L wc_L_ice) yn_L_ice dL_law_517 hw rfl rfl (lroom (a := 0) (b := 0) rfl hc hs) (Nat.le_of_ble_eq_true rfl) (fun _ _ _ _ h => h.1.1) (fun _ _ _ _ h => nomatch h.2.2.2) ?_
  rintro v sh1 sz1 V1 ⟨hE1, hC1, hv1, hr⟩
  cases hr
  have hM1 : MS sh1 V1 (x + 284) S th := LI.mod hM hsz hE1 (by omega)
  have ho1 := ((hE1.2.1 (x + 293) (by omega)).1).trans hd
  have hr : MC E YX7_ice [.ref (x + 284), .int (E.2.2.2.2.2.2.2 (i + 1))] sh1 sz1 V1 (P7F sh1 (x + 284) sz1 V1 q) := by rw [hq]; exact r_ice hM1 hI.1.1 p7F
  refine g_istore dL_law_520 (Nat.le_of_ble_eq_true rfl) rfl ?_
  show G _ _ _ _ _ _ _ _ _ [_, _, _, _, _, _, _, _] _
  refine g_aload_n dL_law_522 rfl ?_
  refine g_aload_n dL_law_523 rfl ?_
  refine g_iload dL_law_524 rfl ?_
  refine g_iconst (v := nI 1) dL_law_526 (by decide) ?_
  refine g_iadd dL_law_527 ?_
  refine g_sld (k := i + 1) dL_law_528 (nI_add _ _) (by omega) hlen ?_
  refine g_callV (M := (ML_law tb nm)) (pc := 529) (Y := YX7_ice) sv_L_155 rfl yn_X7_ice 9 (by decide) rfl rfl dL_law_529 hr (hM1.choose_spec.1.1) rfl rfl (lroom (a := 1) (b := 6) rfl hc hs) (Nat.le_of_ble_eq_true rfl) (fun _ _ _ _ h => Nat.le_of_eq h.2.1.symm) ?_ (fun _ _ _ _ h => by obtain ⟨-, -, w, -, -, -, h⟩ := h; exact nomatch h)
  rintro v sh2 sz2 V2 ⟨rfl, rfl, w2, hf2, hv2, hM2, hr2⟩
  cases hr2
  have hL2 : LI E sh2 sz2 V2 x q.2.2 := LI.next hL (Or.inr hE1) hC1 hM2 hf2 hI2
  refine g_fstore dL_law_532 (Nat.le_of_ble_eq_true rfl) rfl ?_
  show G _ _ _ _ _ _ _ _ _ [_, _, _, _, _, _, _, _] _
  refine g_aload_n dL_law_534 rfl ?_
  refine g_callV (M := (ML_law tb nm)) (pc := 535) (Y := YX7_thrown) sv_L_136 rfl yn_X7_thrown 9 (by decide) rfl rfl dL_law_535 (r_thrown (E := E) hM2 (pR_ok (v := some (.int (nI q.1))))) (hM2.choose_spec.1.1) rfl rfl (lroom (a := 1) (b := 6) rfl hc hs) (Nat.le_of_ble_eq_true rfl) (fun _ _ _ _ h => Nat.le_of_eq h.2.2.1.symm) ?_ (fun _ _ _ _ h => nomatch h.1)
  rintro v sh3 sz3 V3 ⟨h3, rfl, rfl, rfl⟩
  cases h3
  refine g_iload dL_law_538 rfl ?_
  refine g_icmp_eq (tgt := 545) dL_law_540 (by decide) (fun _ => ?_) (fun hq => absurd (rfl) hq)
  refine g_iload dL_law_545 rfl ?_
  refine g_if_ne (tgt := 583) dL_law_547 (by decide) (fun bz => ?_) (fun bz => ?_)
  · refine g_jump (tgt := 2250) dL_law_583 (by decide) ?_
    exact g_widen (cu + 2) (su + 12) (by show cu + 1 + 0 + 0 ≤ cu + 2; omega) (by show su + 6 + 0 + 0 ≤ su + 12; omega) (hk _ _ _ _ _ _ hL2)
  · have q0 := nI_z hb3 bz
    obtain ⟨w, hw2, hnn⟩ := hv q0
    have e2 := hv2 q0
    rw [hw2] at e2
    cases e2
    have e3 : V3 (x + 293) 0 = .double (FP.f2d w2) := by rw [hf2 _ (by omega)]; exact hv1 w2 q0 hw2
    refine g_aload dL_law_550 rfl ?_
    refine g_iconst (v := nI 0) dL_law_552 (by decide) ?_
    refine g_daload dL_law_553 ho1 (vp_in_nI (by decide) (by decide)) (at_nI (by decide) e3) ?_
    refine g_fload dL_law_554 rfl ?_
    refine g_f2d dL_law_556 (vfd hnn) ?_
    refine g_dcmp dL_law_557 ?_
    rw [dcmp_z hnn]
    refine g_if_eq (tgt := 583) dL_law_558 (by decide) (fun _ => ?_) (fun hq => absurd (rfl) hq)
    refine g_jump (tgt := 2250) dL_law_583 (by decide) ?_
    exact g_widen (cu + 2) (su + 12) (by show cu + 1 + 0 + 0 ≤ cu + 2; omega) (by show su + 6 + 0 + 0 ≤ su + 12; omega) (hk _ _ _ _ _ _ hL2)
theorem b_bears {a : Int32} : (sp_bears S a).1 ≤ 3 := by
  unfold sp_bears
  repeat' split
  all_goals first | exact Nat.zero_le _ | exact Nat.le_of_ble_eq_true rfl
theorem u_bears {a : Int32} : (sp_bears S a).2.2 = S := by
  unfold sp_bears
  repeat' split
  all_goals rfl
set_option maxRecDepth 100000 in
theorem la_bears (hL : LI E sh sz V x S) (hi : i + 5 ≤ E.2.2.2.2.2.2.1) (hc : cu + 2 ≤ 603072) (hs : su + 12 ≤ 7215210) (hk : LK E tb nm P x i cu su) : G E (ML_law tb nm) P sh sz V cu su 586 [some (.ref E.2.2.2.2.2.1), some (.ref x), some (.ref (x + 284)), some (.ref (x + 292)), some (.ref (x + 293)), some (.int (nI i)), z6, z7] [] := by
  obtain ⟨hC, hI, ⟨th, hM⟩, hW, ho, hd, hsz, hlen⟩ := id hL
  obtain ⟨q, hq⟩ : ∃ q, q = sp_bears S (E.2.2.2.2.2.2.2 (i + 1)) := ⟨_, rfl⟩
  have hI2 : InvS q.2.2 := by rw [hq]; rw [u_bears]; exact hI
  have hb3 : q.1 ≤ 3 := by rw [hq]; exact b_bears
  have hv : ∃ w, q.2.1 = .int w := by rw [hq]; exact v_bears
  have hw : MCH E YL_bears [(0, 9, 12, 22)] [.ref x, .int (E.2.2.2.2.2.2.2 (i + 1)), .ref (x + 292)] sh sz V (WI x (x + 292) sh sz V q) := by rw [hq]; exact w_bears hC hI hW ho (by omega) (by omega)
  refine g_aload_n dL_law_586 rfl ?_
  refine g_aload_n dL_law_587 rfl ?_
  refine g_iload dL_law_588 rfl ?_
  refine g_iconst (v := nI 1) dL_law_590 (by decide) ?_
  refine g_iadd dL_law_591 ?_
  refine g_sld (k := i + 1) dL_law_592 (nI_add _ _) (by omega) hlen ?_
  refine g_aload_n dL_law_593 rfl ?_
  refine g_callSH (M := (ML_law tb nm)) (pc := 594) (Y := YL_bears) (gIn_SH ml_L_156 wt_L_bears ini_L wc_L_bears) yn_L_bears dL_law_594 hw rfl rfl (lroom (a := 0) (b := 0) rfl hc hs) (Nat.le_of_ble_eq_true rfl) (fun _ _ _ _ h => h.1.1) (fun _ _ _ _ h => nomatch h.2.2.2) ?_
  rintro v sh1 sz1 V1 ⟨hE1, hC1, hv1, hr⟩
  cases hr
  have hM1 : MS sh1 V1 (x + 284) S th := LI.mod hM hsz hE1 (by omega)
  have ho1 := ((hE1.2.1 (x + 292) (by omega)).1).trans ho
  have hr : MC E YX7_bears [.ref (x + 284), .int (E.2.2.2.2.2.2.2 (i + 1))] sh1 sz1 V1 (P7 sh1 (x + 284) sz1 V1 q) := by rw [hq]; exact r_bears hM1 hI.1.1 p7
  refine g_istore dL_law_597 (Nat.le_of_ble_eq_true rfl) rfl ?_
  show G _ _ _ _ _ _ _ _ _ [_, _, _, _, _, _, _, _] _
  refine g_aload_n dL_law_599 rfl ?_
  refine g_aload_n dL_law_600 rfl ?_
  refine g_iload dL_law_601 rfl ?_
  refine g_iconst (v := nI 1) dL_law_603 (by decide) ?_
  refine g_iadd dL_law_604 ?_
  refine g_sld (k := i + 1) dL_law_605 (nI_add _ _) (by omega) hlen ?_
  refine g_callV (M := (ML_law tb nm)) (pc := 606) (Y := YX7_bears) sv_L_158 rfl yn_X7_bears 9 (by decide) rfl rfl dL_law_606 hr (hM1.choose_spec.1.1) rfl rfl (lroom (a := 1) (b := 6) rfl hc hs) (Nat.le_of_ble_eq_true rfl) (fun _ _ _ _ h => Nat.le_of_eq h.2.1.symm) ?_ (fun _ _ _ _ h => by obtain ⟨-, -, w, -, -, -, h⟩ := h; exact nomatch h)
  rintro v sh2 sz2 V2 ⟨rfl, rfl, w2, hf2, hv2, hM2, hr2⟩
  cases hr2
  have hL2 : LI E sh2 sz2 V2 x q.2.2 := LI.next hL (Or.inl hE1) hC1 hM2 hf2 hI2
  refine g_istore dL_law_609 (Nat.le_of_ble_eq_true rfl) rfl ?_
  show G _ _ _ _ _ _ _ _ _ [_, _, _, _, _, _, _, _] _
  refine g_aload_n dL_law_611 rfl ?_
  refine g_callV (M := (ML_law tb nm)) (pc := 612) (Y := YX7_thrown) sv_L_136 rfl yn_X7_thrown 9 (by decide) rfl rfl dL_law_612 (r_thrown (E := E) hM2 (pR_ok (v := some (.int (nI q.1))))) (hM2.choose_spec.1.1) rfl rfl (lroom (a := 1) (b := 6) rfl hc hs) (Nat.le_of_ble_eq_true rfl) (fun _ _ _ _ h => Nat.le_of_eq h.2.2.1.symm) ?_ (fun _ _ _ _ h => nomatch h.1)
  rintro v sh3 sz3 V3 ⟨h3, rfl, rfl, rfl⟩
  cases h3
  refine g_iload dL_law_615 rfl ?_
  refine g_icmp_eq (tgt := 622) dL_law_617 (by decide) (fun _ => ?_) (fun hq => absurd (rfl) hq)
  refine g_iload dL_law_622 rfl ?_
  refine g_if_ne (tgt := 639) dL_law_624 (by decide) (fun bz => ?_) (fun bz => ?_)
  · refine g_jump (tgt := 2250) dL_law_639 (by decide) ?_
    exact g_widen (cu + 2) (su + 12) (by show cu + 1 + 0 + 0 ≤ cu + 2; omega) (by show su + 6 + 0 + 0 ≤ su + 12; omega) (hk _ _ _ _ _ _ hL2)
  · have q0 := nI_z hb3 bz
    obtain ⟨w, hw2⟩ := hv
    have e2 := hv2 q0
    rw [hw2] at e2
    cases e2
    have e3 : V3 (x + 292) 0 = .long w2.toInt64 := by rw [hf2 _ (by omega)]; exact hv1 w2 q0 hw2
    refine g_aload_n dL_law_627 rfl ?_
    refine g_iconst (v := nI 0) dL_law_628 (by decide) ?_
    refine g_laload dL_law_629 ho1 (vp_in_nI (by decide) (by decide)) (at_nI (by decide) e3) ?_
    refine g_iload dL_law_630 rfl ?_
    refine g_i2l dL_law_632 rfl ?_
    refine g_lcmp dL_law_633 ?_
    rw [lcmp_z rfl]
    refine g_if_eq (tgt := 639) dL_law_634 (by decide) (fun _ => ?_) (fun hq => absurd (rfl) hq)
    refine g_jump (tgt := 2250) dL_law_639 (by decide) ?_
    exact g_widen (cu + 2) (su + 12) (by show cu + 1 + 0 + 0 ≤ cu + 2; omega) (by show su + 6 + 0 + 0 ≤ su + 12; omega) (hk _ _ _ _ _ _ hL2)
theorem b_sign {a : Int32} : (sp_sign S a).1 ≤ 3 := by
  unfold sp_sign
  repeat' split
  all_goals first | exact Nat.zero_le _ | exact Nat.le_of_ble_eq_true rfl
theorem u_sign {a : Int32} : (sp_sign S a).2.2 = S := by
  unfold sp_sign
  repeat' split
  all_goals rfl
set_option maxRecDepth 100000 in
theorem la_sign (hL : LI E sh sz V x S) (hi : i + 5 ≤ E.2.2.2.2.2.2.1) (hc : cu + 2 ≤ 603072) (hs : su + 12 ≤ 7215210) (hk : LK E tb nm P x i cu su) : G E (ML_law tb nm) P sh sz V cu su 642 [some (.ref E.2.2.2.2.2.1), some (.ref x), some (.ref (x + 284)), some (.ref (x + 292)), some (.ref (x + 293)), some (.int (nI i)), z6, z7] [] := by
  obtain ⟨hC, hI, ⟨th, hM⟩, hW, ho, hd, hsz, hlen⟩ := id hL
  obtain ⟨q, hq⟩ : ∃ q, q = sp_sign S (E.2.2.2.2.2.2.2 (i + 1)) := ⟨_, rfl⟩
  have hI2 : InvS q.2.2 := by rw [hq]; rw [u_sign]; exact hI
  have hb3 : q.1 ≤ 3 := by rw [hq]; exact b_sign
  have hv : ∃ w, q.2.1 = .int w := by rw [hq]; exact v_sign
  have hw : MCH E YL_sign [(0, 9, 12, 22)] [.ref x, .int (E.2.2.2.2.2.2.2 (i + 1)), .ref (x + 292)] sh sz V (WI x (x + 292) sh sz V q) := by rw [hq]; exact w_sign hC hI hW ho (by omega) (by omega)
  refine g_aload_n dL_law_642 rfl ?_
  refine g_aload_n dL_law_643 rfl ?_
  refine g_iload dL_law_644 rfl ?_
  refine g_iconst (v := nI 1) dL_law_646 (by decide) ?_
  refine g_iadd dL_law_647 ?_
  refine g_sld (k := i + 1) dL_law_648 (nI_add _ _) (by omega) hlen ?_
  refine g_aload_n dL_law_649 rfl ?_
  refine g_callSH (M := (ML_law tb nm)) (pc := 650) (Y := YL_sign) (gIn_SH ml_L_159 wt_L_sign ini_L wc_L_sign) yn_L_sign dL_law_650 hw rfl rfl (lroom (a := 0) (b := 0) rfl hc hs) (Nat.le_of_ble_eq_true rfl) (fun _ _ _ _ h => h.1.1) (fun _ _ _ _ h => nomatch h.2.2.2) ?_
  rintro v sh1 sz1 V1 ⟨hE1, hC1, hv1, hr⟩
  cases hr
  have hM1 : MS sh1 V1 (x + 284) S th := LI.mod hM hsz hE1 (by omega)
  have ho1 := ((hE1.2.1 (x + 292) (by omega)).1).trans ho
  have hr : MC E YX7_sign [.ref (x + 284), .int (E.2.2.2.2.2.2.2 (i + 1))] sh1 sz1 V1 (P7 sh1 (x + 284) sz1 V1 q) := by rw [hq]; exact r_sign hM1 hI.1.1 p7
  refine g_istore dL_law_653 (Nat.le_of_ble_eq_true rfl) rfl ?_
  show G _ _ _ _ _ _ _ _ _ [_, _, _, _, _, _, _, _] _
  refine g_aload_n dL_law_655 rfl ?_
  refine g_aload_n dL_law_656 rfl ?_
  refine g_iload dL_law_657 rfl ?_
  refine g_iconst (v := nI 1) dL_law_659 (by decide) ?_
  refine g_iadd dL_law_660 ?_
  refine g_sld (k := i + 1) dL_law_661 (nI_add _ _) (by omega) hlen ?_
  refine g_callV (M := (ML_law tb nm)) (pc := 662) (Y := YX7_sign) sv_L_161 rfl yn_X7_sign 9 (by decide) rfl rfl dL_law_662 hr (hM1.choose_spec.1.1) rfl rfl (lroom (a := 1) (b := 6) rfl hc hs) (Nat.le_of_ble_eq_true rfl) (fun _ _ _ _ h => Nat.le_of_eq h.2.1.symm) ?_ (fun _ _ _ _ h => by obtain ⟨-, -, w, -, -, -, h⟩ := h; exact nomatch h)
  rintro v sh2 sz2 V2 ⟨rfl, rfl, w2, hf2, hv2, hM2, hr2⟩
  cases hr2
  have hL2 : LI E sh2 sz2 V2 x q.2.2 := LI.next hL (Or.inl hE1) hC1 hM2 hf2 hI2
  refine g_istore dL_law_665 (Nat.le_of_ble_eq_true rfl) rfl ?_
  show G _ _ _ _ _ _ _ _ _ [_, _, _, _, _, _, _, _] _
  refine g_aload_n dL_law_667 rfl ?_
  refine g_callV (M := (ML_law tb nm)) (pc := 668) (Y := YX7_thrown) sv_L_136 rfl yn_X7_thrown 9 (by decide) rfl rfl dL_law_668 (r_thrown (E := E) hM2 (pR_ok (v := some (.int (nI q.1))))) (hM2.choose_spec.1.1) rfl rfl (lroom (a := 1) (b := 6) rfl hc hs) (Nat.le_of_ble_eq_true rfl) (fun _ _ _ _ h => Nat.le_of_eq h.2.2.1.symm) ?_ (fun _ _ _ _ h => nomatch h.1)
  rintro v sh3 sz3 V3 ⟨h3, rfl, rfl, rfl⟩
  cases h3
  refine g_iload dL_law_671 rfl ?_
  refine g_icmp_eq (tgt := 678) dL_law_673 (by decide) (fun _ => ?_) (fun hq => absurd (rfl) hq)
  refine g_iload dL_law_678 rfl ?_
  refine g_if_ne (tgt := 695) dL_law_680 (by decide) (fun bz => ?_) (fun bz => ?_)
  · refine g_jump (tgt := 2250) dL_law_695 (by decide) ?_
    exact g_widen (cu + 2) (su + 12) (by show cu + 1 + 0 + 0 ≤ cu + 2; omega) (by show su + 6 + 0 + 0 ≤ su + 12; omega) (hk _ _ _ _ _ _ hL2)
  · have q0 := nI_z hb3 bz
    obtain ⟨w, hw2⟩ := hv
    have e2 := hv2 q0
    rw [hw2] at e2
    cases e2
    have e3 : V3 (x + 292) 0 = .long w2.toInt64 := by rw [hf2 _ (by omega)]; exact hv1 w2 q0 hw2
    refine g_aload_n dL_law_683 rfl ?_
    refine g_iconst (v := nI 0) dL_law_684 (by decide) ?_
    refine g_laload dL_law_685 ho1 (vp_in_nI (by decide) (by decide)) (at_nI (by decide) e3) ?_
    refine g_iload dL_law_686 rfl ?_
    refine g_i2l dL_law_688 rfl ?_
    refine g_lcmp dL_law_689 ?_
    rw [lcmp_z rfl]
    refine g_if_eq (tgt := 695) dL_law_690 (by decide) (fun _ => ?_) (fun hq => absurd (rfl) hq)
    refine g_jump (tgt := 2250) dL_law_695 (by decide) ?_
    exact g_widen (cu + 2) (su + 12) (by show cu + 1 + 0 + 0 ≤ cu + 2; omega) (by show su + 6 + 0 + 0 ≤ su + 12; omega) (hk _ _ _ _ _ _ hL2)
theorem b_weakest  : (sp_weakest S).1 ≤ 3 := by
  unfold sp_weakest
  repeat' split
  all_goals first | exact Nat.zero_le _ | exact Nat.le_of_ble_eq_true rfl
theorem u_weakest  : (sp_weakest S).2.2 = S := by
  unfold sp_weakest
  repeat' split
  all_goals rfl
set_option maxRecDepth 100000 in
theorem la_weakest (hL : LI E sh sz V x S) (hi : i + 5 ≤ E.2.2.2.2.2.2.1) (hc : cu + 2 ≤ 603072) (hs : su + 12 ≤ 7215210) (hk : LK E tb nm P x i cu su) : G E (ML_law tb nm) P sh sz V cu su 698 [some (.ref E.2.2.2.2.2.1), some (.ref x), some (.ref (x + 284)), some (.ref (x + 292)), some (.ref (x + 293)), some (.int (nI i)), z6, z7] [] := by
  obtain ⟨hC, hI, ⟨th, hM⟩, hW, ho, hd, hsz, hlen⟩ := id hL
  obtain ⟨q, hq⟩ : ∃ q, q = sp_weakest S := ⟨_, rfl⟩
  have hI2 : InvS q.2.2 := by rw [hq]; rw [u_weakest]; exact hI
  have hb3 : q.1 ≤ 3 := by rw [hq]; exact b_weakest
  have hv : q.1 = 0 ∧ ∃ w, q.2.1 = .int w := by rw [hq]; exact ⟨rfl, _, rfl⟩
  have hw : MC E YX6_weakest [.ref x] sh sz V (P6 x sh sz V [] q) := by rw [hq]; exact m_weakest hC hI.1.1 hW cp6
  refine g_aload_n dL_law_698 rfl ?_
  refine g_callV (M := (ML_law tb nm)) (pc := 699) (Y := YX6_weakest) sv_L_162 rfl yn_X6_weakest 8 (by decide) rfl rfl dL_law_699 hw hC.1.1 rfl rfl (lroom (a := 0) (b := 0) rfl hc hs) (Nat.le_of_ble_eq_true rfl) (fun _ _ _ _ h => h.1.1) ?_ (fun _ _ _ _ h => absurd hv.1 h.2.2.1)
  rintro v sh1 sz1 V1 ⟨hE1, hC1, hq0, rfl⟩
  have hE1 := hE1.wo (o := x + 292)
  obtain ⟨w, hw2⟩ := hv.2
  rw [hw2]
  have hM1 : MS sh1 V1 (x + 284) S th := LI.mod hM hsz hE1 (by omega)
  have hr : MC E YX7_weakest [.ref (x + 284)] sh1 sz1 V1 (P7 sh1 (x + 284) sz1 V1 q) := by rw [hq]; exact r_weakest hM1 hI.1.1 p7
  show G _ _ _ _ _ _ _ _ _ _ [.int w]
  refine g_aload_n dL_law_702 rfl ?_
  refine g_callV (M := (ML_law tb nm)) (pc := 703) (Y := YX7_weakest) sv_L_165 rfl yn_X7_weakest 9 (by decide) rfl rfl dL_law_703 hr (hM1.choose_spec.1.1) rfl rfl (lroom (a := 0) (b := 0) rfl hc hs) (Nat.le_of_ble_eq_true rfl) (fun _ _ _ _ h => Nat.le_of_eq h.2.1.symm) ?_ (fun _ _ _ _ h => by obtain ⟨-, -, w, -, -, -, h⟩ := h; exact nomatch h)
  rintro v sh2 sz2 V2 ⟨rfl, rfl, w2, hf2, hv2, hM2, hr2⟩
  cases hr2
  have hL2 : LI E sh2 sz2 V2 x q.2.2 := LI.next hL (Or.inl hE1) hC1 hM2 hf2 hI2
  have e2 := hv2 hv.1
  rw [hw2] at e2
  cases e2
  show G _ _ _ _ _ _ _ _ _ _ [.int w, .int w]
  refine g_icmp_eq (tgt := 2250) dL_law_706 (by decide) (fun _ => ?_) (fun hq => absurd (rfl) hq)
  exact g_widen (cu + 2) (su + 12) (by show cu + 0 + 0 ≤ cu + 2; omega) (by show su + 0 + 0 ≤ su + 12; omega) (hk _ _ _ _ _ _ hL2)
theorem b_truck {kd w ax r : Int32} : (sp_truck S kd w ax r).1 ≤ 3 := by
  unfold sp_truck
  repeat' split
  all_goals first | exact Nat.zero_le _ | exact Nat.le_of_ble_eq_true rfl
set_option maxRecDepth 100000 in
theorem la_truck (hL : LI E sh sz V x S) (hi : i + 5 ≤ E.2.2.2.2.2.2.1) (hc : cu + 2 ≤ 603072) (hs : su + 12 ≤ 7215210) (hk : LK E tb nm P x i cu su) : G E (ML_law tb nm) P sh sz V cu su 711 [some (.ref E.2.2.2.2.2.1), some (.ref x), some (.ref (x + 284)), some (.ref (x + 292)), some (.ref (x + 293)), some (.int (nI i)), z6, z7] [] := by
  obtain ⟨hC, hI, ⟨th, hM⟩, hW, ho, hd, hsz, hlen⟩ := id hL
  obtain ⟨q, hq⟩ : ∃ q, q = sp_truck S (E.2.2.2.2.2.2.2 (i + 1)) (E.2.2.2.2.2.2.2 (i + 2)) (E.2.2.2.2.2.2.2 (i + 3)) (E.2.2.2.2.2.2.2 (i + 4)) := ⟨_, rfl⟩
  have hI2 : InvS q.2.2 := by rw [hq]; exact s_truck hI
  have hb3 : q.1 ≤ 3 := by rw [hq]; exact b_truck
  have hv : ∃ w, q.2.1 = .int w := by rw [hq]; exact v_truck
  have hw : MCH E YL_truck [(0, 14, 17, 22), (0, 14, 21, 13), (0, 14, 25, 47)] [.ref x, .int (E.2.2.2.2.2.2.2 (i + 1)), .int (E.2.2.2.2.2.2.2 (i + 2)), .int (E.2.2.2.2.2.2.2 (i + 3)), .int (E.2.2.2.2.2.2.2 (i + 4)), .ref (x + 292)] sh sz V (WI x (x + 292) sh sz V q) := by rw [hq]; exact w_truck hC hI hW ho (by omega) (by omega)
  refine g_aload_n dL_law_711 rfl ?_
  refine g_aload_n dL_law_712 rfl ?_
  refine g_iload dL_law_713 rfl ?_
  refine g_iconst (v := nI 1) dL_law_715 (by decide) ?_
  refine g_iadd dL_law_716 ?_
  refine g_sld (k := i + 1) dL_law_717 (nI_add _ _) (by omega) hlen ?_
  refine g_aload_n dL_law_718 rfl ?_
  refine g_iload dL_law_719 rfl ?_
  refine g_iconst (v := nI 2) dL_law_721 (by decide) ?_
  refine g_iadd dL_law_722 ?_
  refine g_sld (k := i + 2) dL_law_723 (nI_add _ _) (by omega) hlen ?_
  refine g_aload_n dL_law_724 rfl ?_
  refine g_iload dL_law_725 rfl ?_
  refine g_iconst (v := nI 3) dL_law_727 (by decide) ?_
  refine g_iadd dL_law_728 ?_
  refine g_sld (k := i + 3) dL_law_729 (nI_add _ _) (by omega) hlen ?_
  refine g_aload_n dL_law_730 rfl ?_
  refine g_iload dL_law_731 rfl ?_
  refine g_iconst (v := nI 4) dL_law_733 (by decide) ?_
  refine g_iadd dL_law_734 ?_
  refine g_sld (k := i + 4) dL_law_735 (nI_add _ _) (by omega) hlen ?_
  refine g_aload_n dL_law_736 rfl ?_
  refine g_callSH (M := (ML_law tb nm)) (pc := 737) (Y := YL_truck) (gIn_SH ml_L_166 wt_L_truck ini_L wc_L_truck) yn_L_truck dL_law_737 hw rfl rfl (lroom (a := 0) (b := 0) rfl hc hs) (Nat.le_of_ble_eq_true rfl) (fun _ _ _ _ h => h.1.1) (fun _ _ _ _ h => nomatch h.2.2.2) ?_
  rintro v sh1 sz1 V1 ⟨hE1, hC1, hv1, hr⟩
  cases hr
  have hM1 : MS sh1 V1 (x + 284) S th := LI.mod hM hsz hE1 (by omega)
  have ho1 := ((hE1.2.1 (x + 292) (by omega)).1).trans ho
  have hr : MC E YX7_truck [.ref (x + 284), .int (E.2.2.2.2.2.2.2 (i + 1)), .int (E.2.2.2.2.2.2.2 (i + 2)), .int (E.2.2.2.2.2.2.2 (i + 3)), .int (E.2.2.2.2.2.2.2 (i + 4))] sh1 sz1 V1 (P7 sh1 (x + 284) sz1 V1 q) := by rw [hq]; exact r_truck hM1 hI.1.1 p7
  refine g_istore dL_law_740 (Nat.le_of_ble_eq_true rfl) rfl ?_
  show G _ _ _ _ _ _ _ _ _ [_, _, _, _, _, _, _, _] _
  refine g_aload_n dL_law_742 rfl ?_
  refine g_aload_n dL_law_743 rfl ?_
  refine g_iload dL_law_744 rfl ?_
  refine g_iconst (v := nI 1) dL_law_746 (by decide) ?_
  refine g_iadd dL_law_747 ?_
  refine g_sld (k := i + 1) dL_law_748 (nI_add _ _) (by omega) hlen ?_
  refine g_aload_n dL_law_749 rfl ?_
  refine g_iload dL_law_750 rfl ?_
  refine g_iconst (v := nI 2) dL_law_752 (by decide) ?_
  refine g_iadd dL_law_753 ?_
  refine g_sld (k := i + 2) dL_law_754 (nI_add _ _) (by omega) hlen ?_
  refine g_aload_n dL_law_755 rfl ?_
  refine g_iload dL_law_756 rfl ?_
  refine g_iconst (v := nI 3) dL_law_758 (by decide) ?_
  refine g_iadd dL_law_759 ?_
  refine g_sld (k := i + 3) dL_law_760 (nI_add _ _) (by omega) hlen ?_
  refine g_aload_n dL_law_761 rfl ?_
  refine g_iload dL_law_762 rfl ?_
  refine g_iconst (v := nI 4) dL_law_764 (by decide) ?_
  refine g_iadd dL_law_765 ?_
  refine g_sld (k := i + 4) dL_law_766 (nI_add _ _) (by omega) hlen ?_
  refine g_callV (M := (ML_law tb nm)) (pc := 767) (Y := YX7_truck) sv_L_169 rfl yn_X7_truck 9 (by decide) rfl rfl dL_law_767 hr (hM1.choose_spec.1.1) rfl rfl (lroom (a := 1) (b := 6) rfl hc hs) (Nat.le_of_ble_eq_true rfl) (fun _ _ _ _ h => Nat.le_of_eq h.2.1.symm) ?_ (fun _ _ _ _ h => by obtain ⟨-, -, w, -, -, -, h⟩ := h; exact nomatch h)
  rintro v sh2 sz2 V2 ⟨rfl, rfl, w2, hf2, hv2, hM2, hr2⟩
  cases hr2
  have hL2 : LI E sh2 sz2 V2 x q.2.2 := LI.next hL (Or.inl hE1) hC1 hM2 hf2 hI2
  refine g_istore dL_law_770 (Nat.le_of_ble_eq_true rfl) rfl ?_
  show G _ _ _ _ _ _ _ _ _ [_, _, _, _, _, _, _, _] _
  refine g_aload_n dL_law_772 rfl ?_
  refine g_callV (M := (ML_law tb nm)) (pc := 773) (Y := YX7_thrown) sv_L_136 rfl yn_X7_thrown 9 (by decide) rfl rfl dL_law_773 (r_thrown (E := E) hM2 (pR_ok (v := some (.int (nI q.1))))) (hM2.choose_spec.1.1) rfl rfl (lroom (a := 1) (b := 6) rfl hc hs) (Nat.le_of_ble_eq_true rfl) (fun _ _ _ _ h => Nat.le_of_eq h.2.2.1.symm) ?_ (fun _ _ _ _ h => nomatch h.1)
  rintro v sh3 sz3 V3 ⟨h3, rfl, rfl, rfl⟩
  cases h3
  refine g_iload dL_law_776 rfl ?_
  refine g_icmp_eq (tgt := 783) dL_law_778 (by decide) (fun _ => ?_) (fun hq => absurd (rfl) hq)
  refine g_iload dL_law_783 rfl ?_
  refine g_if_ne (tgt := 800) dL_law_785 (by decide) (fun bz => ?_) (fun bz => ?_)
  · refine g_jump (tgt := 2250) dL_law_800 (by decide) ?_
    exact g_widen (cu + 2) (su + 12) (by show cu + 1 + 0 + 0 ≤ cu + 2; omega) (by show su + 6 + 0 + 0 ≤ su + 12; omega) (hk _ _ _ _ _ _ hL2)
  · have q0 := nI_z hb3 bz
    obtain ⟨w, hw2⟩ := hv
    have e2 := hv2 q0
    rw [hw2] at e2
    cases e2
    have e3 : V3 (x + 292) 0 = .long w2.toInt64 := by rw [hf2 _ (by omega)]; exact hv1 w2 q0 hw2
    refine g_aload_n dL_law_788 rfl ?_
    refine g_iconst (v := nI 0) dL_law_789 (by decide) ?_
    refine g_laload dL_law_790 ho1 (vp_in_nI (by decide) (by decide)) (at_nI (by decide) e3) ?_
    refine g_iload dL_law_791 rfl ?_
    refine g_i2l dL_law_793 rfl ?_
    refine g_lcmp dL_law_794 ?_
    rw [lcmp_z rfl]
    refine g_if_eq (tgt := 800) dL_law_795 (by decide) (fun _ => ?_) (fun hq => absurd (rfl) hq)
    refine g_jump (tgt := 2250) dL_law_800 (by decide) ?_
    exact g_widen (cu + 2) (su + 12) (by show cu + 1 + 0 + 0 ≤ cu + 2; omega) (by show su + 6 + 0 + 0 ≤ su + 12; omega) (hk _ _ _ _ _ _ hL2)
theorem b_inRow {r p w : Int32} : (sp_inRow S r p w).1 ≤ 3 := by
  unfold sp_inRow
  repeat' split
  all_goals first | exact Nat.zero_le _ | exact Nat.le_of_ble_eq_true rfl
theorem u_inRow {r p w : Int32} : (sp_inRow S r p w).2.2 = S := by
  unfold sp_inRow
  repeat' split
  all_goals rfl
set_option maxRecDepth 100000 in
theorem la_inRow (hL : LI E sh sz V x S) (hi : i + 5 ≤ E.2.2.2.2.2.2.1) (hc : cu + 2 ≤ 603072) (hs : su + 12 ≤ 7215210) (hk : LK E tb nm P x i cu su) : G E (ML_law tb nm) P sh sz V cu su 803 [some (.ref E.2.2.2.2.2.1), some (.ref x), some (.ref (x + 284)), some (.ref (x + 292)), some (.ref (x + 293)), some (.int (nI i)), z6, z7] [] := by
  obtain ⟨hC, hI, ⟨th, hM⟩, hW, ho, hd, hsz, hlen⟩ := id hL
  obtain ⟨q, hq⟩ : ∃ q, q = sp_inRow S (E.2.2.2.2.2.2.2 (i + 1)) (E.2.2.2.2.2.2.2 (i + 2)) (E.2.2.2.2.2.2.2 (i + 3)) := ⟨_, rfl⟩
  have hI2 : InvS q.2.2 := by rw [hq]; rw [u_inRow]; exact hI
  have hb3 : q.1 ≤ 3 := by rw [hq]; exact b_inRow
  have hv : ∃ w, q.2.1 = .int w := by rw [hq]; exact v_inRow
  have hw : MCH E YL_inRow [(0, 12, 15, 22), (0, 12, 19, 27), (0, 12, 23, 13)] [.ref x, .int (E.2.2.2.2.2.2.2 (i + 1)), .int (E.2.2.2.2.2.2.2 (i + 2)), .int (E.2.2.2.2.2.2.2 (i + 3)), .ref (x + 292)] sh sz V (WI x (x + 292) sh sz V q) := by rw [hq]; exact w_inRow hC hI hW ho (by omega) (by omega)
  refine g_aload_n dL_law_803 rfl ?_
  refine g_aload_n dL_law_804 rfl ?_
  refine g_iload dL_law_805 rfl ?_
  refine g_iconst (v := nI 1) dL_law_807 (by decide) ?_
  refine g_iadd dL_law_808 ?_
  refine g_sld (k := i + 1) dL_law_809 (nI_add _ _) (by omega) hlen ?_
  refine g_aload_n dL_law_810 rfl ?_
  refine g_iload dL_law_811 rfl ?_
  refine g_iconst (v := nI 2) dL_law_813 (by decide) ?_
  refine g_iadd dL_law_814 ?_
  refine g_sld (k := i + 2) dL_law_815 (nI_add _ _) (by omega) hlen ?_
  refine g_aload_n dL_law_816 rfl ?_
  refine g_iload dL_law_817 rfl ?_
  refine g_iconst (v := nI 3) dL_law_819 (by decide) ?_
  refine g_iadd dL_law_820 ?_
  refine g_sld (k := i + 3) dL_law_821 (nI_add _ _) (by omega) hlen ?_
  refine g_aload_n dL_law_822 rfl ?_
  refine g_callSH (M := (ML_law tb nm)) (pc := 823) (Y := YL_inRow) (gIn_SH ml_L_170 wt_L_inRow ini_L wc_L_inRow) yn_L_inRow dL_law_823 hw rfl rfl (lroom (a := 0) (b := 0) rfl hc hs) (Nat.le_of_ble_eq_true rfl) (fun _ _ _ _ h => h.1.1) (fun _ _ _ _ h => nomatch h.2.2.2) ?_
  rintro v sh1 sz1 V1 ⟨hE1, hC1, hv1, hr⟩
  cases hr
  have hM1 : MS sh1 V1 (x + 284) S th := LI.mod hM hsz hE1 (by omega)
  have ho1 := ((hE1.2.1 (x + 292) (by omega)).1).trans ho
  have hr : MC E YX7_inRow [.ref (x + 284), .int (E.2.2.2.2.2.2.2 (i + 1)), .int (E.2.2.2.2.2.2.2 (i + 2)), .int (E.2.2.2.2.2.2.2 (i + 3))] sh1 sz1 V1 (P7 sh1 (x + 284) sz1 V1 q) := by rw [hq]; exact r_inRow hM1 p7
  refine g_istore dL_law_826 (Nat.le_of_ble_eq_true rfl) rfl ?_
  show G _ _ _ _ _ _ _ _ _ [_, _, _, _, _, _, _, _] _
  refine g_aload_n dL_law_828 rfl ?_
  refine g_aload_n dL_law_829 rfl ?_
  refine g_iload dL_law_830 rfl ?_
  refine g_iconst (v := nI 1) dL_law_832 (by decide) ?_
  refine g_iadd dL_law_833 ?_
  refine g_sld (k := i + 1) dL_law_834 (nI_add _ _) (by omega) hlen ?_
  refine g_aload_n dL_law_835 rfl ?_
  refine g_iload dL_law_836 rfl ?_
  refine g_iconst (v := nI 2) dL_law_838 (by decide) ?_
  refine g_iadd dL_law_839 ?_
  refine g_sld (k := i + 2) dL_law_840 (nI_add _ _) (by omega) hlen ?_
  refine g_aload_n dL_law_841 rfl ?_
  refine g_iload dL_law_842 rfl ?_
  refine g_iconst (v := nI 3) dL_law_844 (by decide) ?_
  refine g_iadd dL_law_845 ?_
  refine g_sld (k := i + 3) dL_law_846 (nI_add _ _) (by omega) hlen ?_
  refine g_callV (M := (ML_law tb nm)) (pc := 847) (Y := YX7_inRow) sv_L_173 rfl yn_X7_inRow 9 (by decide) rfl rfl dL_law_847 hr (hM1.choose_spec.1.1) rfl rfl (lroom (a := 1) (b := 6) rfl hc hs) (Nat.le_of_ble_eq_true rfl) (fun _ _ _ _ h => Nat.le_of_eq h.2.1.symm) ?_ (fun _ _ _ _ h => by obtain ⟨-, -, w, -, -, -, h⟩ := h; exact nomatch h)
  rintro v sh2 sz2 V2 ⟨rfl, rfl, w2, hf2, hv2, hM2, hr2⟩
  cases hr2
  have hL2 : LI E sh2 sz2 V2 x q.2.2 := LI.next hL (Or.inl hE1) hC1 hM2 hf2 hI2
  refine g_istore dL_law_850 (Nat.le_of_ble_eq_true rfl) rfl ?_
  show G _ _ _ _ _ _ _ _ _ [_, _, _, _, _, _, _, _] _
  refine g_aload_n dL_law_852 rfl ?_
  refine g_callV (M := (ML_law tb nm)) (pc := 853) (Y := YX7_thrown) sv_L_136 rfl yn_X7_thrown 9 (by decide) rfl rfl dL_law_853 (r_thrown (E := E) hM2 (pR_ok (v := some (.int (nI q.1))))) (hM2.choose_spec.1.1) rfl rfl (lroom (a := 1) (b := 6) rfl hc hs) (Nat.le_of_ble_eq_true rfl) (fun _ _ _ _ h => Nat.le_of_eq h.2.2.1.symm) ?_ (fun _ _ _ _ h => nomatch h.1)
  rintro v sh3 sz3 V3 ⟨h3, rfl, rfl, rfl⟩
  cases h3
  refine g_iload dL_law_856 rfl ?_
  refine g_icmp_eq (tgt := 863) dL_law_858 (by decide) (fun _ => ?_) (fun hq => absurd (rfl) hq)
  refine g_iload dL_law_863 rfl ?_
  refine g_if_ne (tgt := 880) dL_law_865 (by decide) (fun bz => ?_) (fun bz => ?_)
  · refine g_jump (tgt := 2250) dL_law_880 (by decide) ?_
    exact g_widen (cu + 2) (su + 12) (by show cu + 1 + 0 + 0 ≤ cu + 2; omega) (by show su + 6 + 0 + 0 ≤ su + 12; omega) (hk _ _ _ _ _ _ hL2)
  · have q0 := nI_z hb3 bz
    obtain ⟨w, hw2⟩ := hv
    have e2 := hv2 q0
    rw [hw2] at e2
    cases e2
    have e3 : V3 (x + 292) 0 = .long w2.toInt64 := by rw [hf2 _ (by omega)]; exact hv1 w2 q0 hw2
    refine g_aload_n dL_law_868 rfl ?_
    refine g_iconst (v := nI 0) dL_law_869 (by decide) ?_
    refine g_laload dL_law_870 ho1 (vp_in_nI (by decide) (by decide)) (at_nI (by decide) e3) ?_
    refine g_iload dL_law_871 rfl ?_
    refine g_i2l dL_law_873 rfl ?_
    refine g_lcmp dL_law_874 ?_
    rw [lcmp_z rfl]
    refine g_if_eq (tgt := 880) dL_law_875 (by decide) (fun _ => ?_) (fun hq => absurd (rfl) hq)
    refine g_jump (tgt := 2250) dL_law_880 (by decide) ?_
    exact g_widen (cu + 2) (su + 12) (by show cu + 1 + 0 + 0 ≤ cu + 2; omega) (by show su + 6 + 0 + 0 ≤ su + 12; omega) (hk _ _ _ _ _ _ hL2)
theorem b_convoy {g : Int32} : (sp_convoy S g).1 ≤ 3 := by
  unfold sp_convoy
  repeat' split
  all_goals first | exact Nat.zero_le _ | exact Nat.le_of_ble_eq_true rfl
set_option maxRecDepth 100000 in
theorem la_convoy (hL : LI E sh sz V x S) (hi : i + 5 ≤ E.2.2.2.2.2.2.1) (hc : cu + 2 ≤ 603072) (hs : su + 12 ≤ 7215210) (hk : LK E tb nm P x i cu su) : G E (ML_law tb nm) P sh sz V cu su 883 [some (.ref E.2.2.2.2.2.1), some (.ref x), some (.ref (x + 284)), some (.ref (x + 292)), some (.ref (x + 293)), some (.int (nI i)), z6, z7] [] := by
  obtain ⟨hC, hI, ⟨th, hM⟩, hW, ho, hd, hsz, hlen⟩ := id hL
  obtain ⟨q, hq⟩ : ∃ q, q = sp_convoy S (E.2.2.2.2.2.2.2 (i + 1)) := ⟨_, rfl⟩
  have hI2 : InvS q.2.2 := by rw [hq]; exact s_convoy hI
  have hb3 : q.1 ≤ 3 := by rw [hq]; exact b_convoy
  have hv : ∃ w, q.2.1 = .int w := by rw [hq]; exact v_convoy
  have hw : MCH E YL_convoy [(0, 9, 12, 13), (0, 9, 15, 47)] [.ref x, .int (E.2.2.2.2.2.2.2 (i + 1)), .ref (x + 292)] sh sz V (WI x (x + 292) sh sz V q) := by rw [hq]; exact w_convoy hC hI hW ho (by omega) (by omega)
  refine g_aload_n dL_law_883 rfl ?_
  refine g_aload_n dL_law_884 rfl ?_
  refine g_iload dL_law_885 rfl ?_
  refine g_iconst (v := nI 1) dL_law_887 (by decide) ?_
  refine g_iadd dL_law_888 ?_
  refine g_sld (k := i + 1) dL_law_889 (nI_add _ _) (by omega) hlen ?_
  refine g_aload_n dL_law_890 rfl ?_
  refine g_callSH (M := (ML_law tb nm)) (pc := 891) (Y := YL_convoy) (gIn_SH ml_L_174 wt_L_convoy ini_L wc_L_convoy) yn_L_convoy dL_law_891 hw rfl rfl (lroom (a := 0) (b := 0) rfl hc hs) (Nat.le_of_ble_eq_true rfl) (fun _ _ _ _ h => h.1.1) (fun _ _ _ _ h => nomatch h.2.2.2) ?_
  rintro v sh1 sz1 V1 ⟨hE1, hC1, hv1, hr⟩
  cases hr
  have hM1 : MS sh1 V1 (x + 284) S th := LI.mod hM hsz hE1 (by omega)
  have ho1 := ((hE1.2.1 (x + 292) (by omega)).1).trans ho
  have hr : MC E YX7_convoy [.ref (x + 284), .int (E.2.2.2.2.2.2.2 (i + 1))] sh1 sz1 V1 (P7 sh1 (x + 284) sz1 V1 q) := by rw [hq]; exact r_convoy hM1 hI.1.1 p7
  refine g_istore dL_law_894 (Nat.le_of_ble_eq_true rfl) rfl ?_
  show G _ _ _ _ _ _ _ _ _ [_, _, _, _, _, _, _, _] _
  refine g_aload_n dL_law_896 rfl ?_
  refine g_aload_n dL_law_897 rfl ?_
  refine g_iload dL_law_898 rfl ?_
  refine g_iconst (v := nI 1) dL_law_900 (by decide) ?_
  refine g_iadd dL_law_901 ?_
  refine g_sld (k := i + 1) dL_law_902 (nI_add _ _) (by omega) hlen ?_
  refine g_callV (M := (ML_law tb nm)) (pc := 903) (Y := YX7_convoy) sv_L_176 rfl yn_X7_convoy 9 (by decide) rfl rfl dL_law_903 hr (hM1.choose_spec.1.1) rfl rfl (lroom (a := 1) (b := 6) rfl hc hs) (Nat.le_of_ble_eq_true rfl) (fun _ _ _ _ h => Nat.le_of_eq h.2.1.symm) ?_ (fun _ _ _ _ h => by obtain ⟨-, -, w, -, -, -, h⟩ := h; exact nomatch h)
  rintro v sh2 sz2 V2 ⟨rfl, rfl, w2, hf2, hv2, hM2, hr2⟩
  cases hr2
  have hL2 : LI E sh2 sz2 V2 x q.2.2 := LI.next hL (Or.inl hE1) hC1 hM2 hf2 hI2
  refine g_istore dL_law_906 (Nat.le_of_ble_eq_true rfl) rfl ?_
  show G _ _ _ _ _ _ _ _ _ [_, _, _, _, _, _, _, _] _
  refine g_aload_n dL_law_908 rfl ?_
  refine g_callV (M := (ML_law tb nm)) (pc := 909) (Y := YX7_thrown) sv_L_136 rfl yn_X7_thrown 9 (by decide) rfl rfl dL_law_909 (r_thrown (E := E) hM2 (pR_ok (v := some (.int (nI q.1))))) (hM2.choose_spec.1.1) rfl rfl (lroom (a := 1) (b := 6) rfl hc hs) (Nat.le_of_ble_eq_true rfl) (fun _ _ _ _ h => Nat.le_of_eq h.2.2.1.symm) ?_ (fun _ _ _ _ h => nomatch h.1)
  rintro v sh3 sz3 V3 ⟨h3, rfl, rfl, rfl⟩
  cases h3
  refine g_iload dL_law_912 rfl ?_
  refine g_icmp_eq (tgt := 919) dL_law_914 (by decide) (fun _ => ?_) (fun hq => absurd (rfl) hq)
  refine g_iload dL_law_919 rfl ?_
  refine g_if_ne (tgt := 936) dL_law_921 (by decide) (fun bz => ?_) (fun bz => ?_)
  · refine g_jump (tgt := 2250) dL_law_936 (by decide) ?_
    exact g_widen (cu + 2) (su + 12) (by show cu + 1 + 0 + 0 ≤ cu + 2; omega) (by show su + 6 + 0 + 0 ≤ su + 12; omega) (hk _ _ _ _ _ _ hL2)
  · have q0 := nI_z hb3 bz
    obtain ⟨w, hw2⟩ := hv
    have e2 := hv2 q0
    rw [hw2] at e2
    cases e2
    have e3 : V3 (x + 292) 0 = .long w2.toInt64 := by rw [hf2 _ (by omega)]; exact hv1 w2 q0 hw2
    refine g_aload_n dL_law_924 rfl ?_
    refine g_iconst (v := nI 0) dL_law_925 (by decide) ?_
    refine g_laload dL_law_926 ho1 (vp_in_nI (by decide) (by decide)) (at_nI (by decide) e3) ?_
    refine g_iload dL_law_927 rfl ?_
    refine g_i2l dL_law_929 rfl ?_
    refine g_lcmp dL_law_930 ?_
    rw [lcmp_z rfl]
    refine g_if_eq (tgt := 936) dL_law_931 (by decide) (fun _ => ?_) (fun hq => absurd (rfl) hq)
    refine g_jump (tgt := 2250) dL_law_936 (by decide) ?_
    exact g_widen (cu + 2) (su + 12) (by show cu + 1 + 0 + 0 ≤ cu + 2; omega) (by show su + 6 + 0 + 0 ≤ su + 12; omega) (hk _ _ _ _ _ _ hL2)
theorem b_join {c r p : Int32} : (sp_join S c r p).1 ≤ 3 := by
  unfold sp_join
  repeat' split
  all_goals first | exact Nat.zero_le _ | exact Nat.le_of_ble_eq_true rfl
set_option maxRecDepth 100000 in
theorem la_join (hL : LI E sh sz V x S) (hi : i + 5 ≤ E.2.2.2.2.2.2.1) (hc : cu + 2 ≤ 603072) (hs : su + 12 ≤ 7215210) (hk : LK E tb nm P x i cu su) : G E (ML_law tb nm) P sh sz V cu su 939 [some (.ref E.2.2.2.2.2.1), some (.ref x), some (.ref (x + 284)), some (.ref (x + 292)), some (.ref (x + 293)), some (.int (nI i)), z6, z7] [] := by
  obtain ⟨hC, hI, ⟨th, hM⟩, hW, ho, hd, hsz, hlen⟩ := id hL
  obtain ⟨q, hq⟩ : ∃ q, q = sp_join S (E.2.2.2.2.2.2.2 (i + 1)) (E.2.2.2.2.2.2.2 (i + 2)) (E.2.2.2.2.2.2.2 (i + 3)) := ⟨_, rfl⟩
  have hI2 : InvS q.2.2 := by rw [hq]; exact s_join hI
  have hb3 : q.1 ≤ 3 := by rw [hq]; exact b_join
  have hv : ∃ w, q.2.1 = .int w := by rw [hq]; exact v_join
  have hw : MCH E YL_join [(0, 12, 15, 22), (0, 12, 19, 27), (0, 12, 23, 47)] [.ref x, .int (E.2.2.2.2.2.2.2 (i + 1)), .int (E.2.2.2.2.2.2.2 (i + 2)), .int (E.2.2.2.2.2.2.2 (i + 3)), .ref (x + 292)] sh sz V (WI x (x + 292) sh sz V q) := by rw [hq]; exact w_join hC hI hW ho (by omega) (by omega)
  refine g_aload_n dL_law_939 rfl ?_
  refine g_aload_n dL_law_940 rfl ?_
  refine g_iload dL_law_941 rfl ?_
  refine g_iconst (v := nI 1) dL_law_943 (by decide) ?_
  refine g_iadd dL_law_944 ?_
  refine g_sld (k := i + 1) dL_law_945 (nI_add _ _) (by omega) hlen ?_
  refine g_aload_n dL_law_946 rfl ?_
  refine g_iload dL_law_947 rfl ?_
  refine g_iconst (v := nI 2) dL_law_949 (by decide) ?_
  refine g_iadd dL_law_950 ?_
  refine g_sld (k := i + 2) dL_law_951 (nI_add _ _) (by omega) hlen ?_
  refine g_aload_n dL_law_952 rfl ?_
  refine g_iload dL_law_953 rfl ?_
  refine g_iconst (v := nI 3) dL_law_955 (by decide) ?_
  refine g_iadd dL_law_956 ?_
  refine g_sld (k := i + 3) dL_law_957 (nI_add _ _) (by omega) hlen ?_
  refine g_aload_n dL_law_958 rfl ?_
  refine g_callSH (M := (ML_law tb nm)) (pc := 959) (Y := YL_join) (gIn_SH ml_L_177 wt_L_join ini_L wc_L_join) yn_L_join dL_law_959 hw rfl rfl (lroom (a := 0) (b := 0) rfl hc hs) (Nat.le_of_ble_eq_true rfl) (fun _ _ _ _ h => h.1.1) (fun _ _ _ _ h => nomatch h.2.2.2) ?_
  rintro v sh1 sz1 V1 ⟨hE1, hC1, hv1, hr⟩
  cases hr
  have hM1 : MS sh1 V1 (x + 284) S th := LI.mod hM hsz hE1 (by omega)
  have ho1 := ((hE1.2.1 (x + 292) (by omega)).1).trans ho
  have hr : MC E YX7_join [.ref (x + 284), .int (E.2.2.2.2.2.2.2 (i + 1)), .int (E.2.2.2.2.2.2.2 (i + 2)), .int (E.2.2.2.2.2.2.2 (i + 3))] sh1 sz1 V1 (P7 sh1 (x + 284) sz1 V1 q) := by rw [hq]; exact r_join hM1 hI.1.1 p7
  refine g_istore dL_law_962 (Nat.le_of_ble_eq_true rfl) rfl ?_
  show G _ _ _ _ _ _ _ _ _ [_, _, _, _, _, _, _, _] _
  refine g_aload_n dL_law_964 rfl ?_
  refine g_aload_n dL_law_965 rfl ?_
  refine g_iload dL_law_966 rfl ?_
  refine g_iconst (v := nI 1) dL_law_968 (by decide) ?_
  refine g_iadd dL_law_969 ?_
  refine g_sld (k := i + 1) dL_law_970 (nI_add _ _) (by omega) hlen ?_
  refine g_aload_n dL_law_971 rfl ?_
  refine g_iload dL_law_972 rfl ?_
  refine g_iconst (v := nI 2) dL_law_974 (by decide) ?_
  refine g_iadd dL_law_975 ?_
  refine g_sld (k := i + 2) dL_law_976 (nI_add _ _) (by omega) hlen ?_
  refine g_aload_n dL_law_977 rfl ?_
  refine g_iload dL_law_978 rfl ?_
  refine g_iconst (v := nI 3) dL_law_980 (by decide) ?_
  refine g_iadd dL_law_981 ?_
  refine g_sld (k := i + 3) dL_law_982 (nI_add _ _) (by omega) hlen ?_
  refine g_callV (M := (ML_law tb nm)) (pc := 983) (Y := YX7_join) sv_L_179 rfl yn_X7_join 9 (by decide) rfl rfl dL_law_983 hr (hM1.choose_spec.1.1) rfl rfl (lroom (a := 1) (b := 6) rfl hc hs) (Nat.le_of_ble_eq_true rfl) (fun _ _ _ _ h => Nat.le_of_eq h.2.1.symm) ?_ (fun _ _ _ _ h => by obtain ⟨-, -, w, -, -, -, h⟩ := h; exact nomatch h)
  rintro v sh2 sz2 V2 ⟨rfl, rfl, w2, hf2, hv2, hM2, hr2⟩
  cases hr2
  have hL2 : LI E sh2 sz2 V2 x q.2.2 := LI.next hL (Or.inl hE1) hC1 hM2 hf2 hI2
  refine g_istore dL_law_986 (Nat.le_of_ble_eq_true rfl) rfl ?_
  show G _ _ _ _ _ _ _ _ _ [_, _, _, _, _, _, _, _] _
  refine g_aload_n dL_law_988 rfl ?_
  refine g_callV (M := (ML_law tb nm)) (pc := 989) (Y := YX7_thrown) sv_L_136 rfl yn_X7_thrown 9 (by decide) rfl rfl dL_law_989 (r_thrown (E := E) hM2 (pR_ok (v := some (.int (nI q.1))))) (hM2.choose_spec.1.1) rfl rfl (lroom (a := 1) (b := 6) rfl hc hs) (Nat.le_of_ble_eq_true rfl) (fun _ _ _ _ h => Nat.le_of_eq h.2.2.1.symm) ?_ (fun _ _ _ _ h => nomatch h.1)
  rintro v sh3 sz3 V3 ⟨h3, rfl, rfl, rfl⟩
  cases h3
  refine g_iload dL_law_992 rfl ?_
  refine g_icmp_eq (tgt := 999) dL_law_994 (by decide) (fun _ => ?_) (fun hq => absurd (rfl) hq)
  refine g_iload dL_law_999 rfl ?_
  refine g_if_ne (tgt := 1016) dL_law_1001 (by decide) (fun bz => ?_) (fun bz => ?_)
  · refine g_jump (tgt := 2250) dL_law_1016 (by decide) ?_
    exact g_widen (cu + 2) (su + 12) (by show cu + 1 + 0 + 0 ≤ cu + 2; omega) (by show su + 6 + 0 + 0 ≤ su + 12; omega) (hk _ _ _ _ _ _ hL2)
  · have q0 := nI_z hb3 bz
    obtain ⟨w, hw2⟩ := hv
    have e2 := hv2 q0
    rw [hw2] at e2
    cases e2
    have e3 : V3 (x + 292) 0 = .long w2.toInt64 := by rw [hf2 _ (by omega)]; exact hv1 w2 q0 hw2
    refine g_aload_n dL_law_1004 rfl ?_
    refine g_iconst (v := nI 0) dL_law_1005 (by decide) ?_
    refine g_laload dL_law_1006 ho1 (vp_in_nI (by decide) (by decide)) (at_nI (by decide) e3) ?_
    refine g_iload dL_law_1007 rfl ?_
    refine g_i2l dL_law_1009 rfl ?_
    refine g_lcmp dL_law_1010 ?_
    rw [lcmp_z rfl]
    refine g_if_eq (tgt := 1016) dL_law_1011 (by decide) (fun _ => ?_) (fun hq => absurd (rfl) hq)
    refine g_jump (tgt := 2250) dL_law_1016 (by decide) ?_
    exact g_widen (cu + 2) (su + 12) (by show cu + 1 + 0 + 0 ≤ cu + 2; omega) (by show su + 6 + 0 + 0 ≤ su + 12; omega) (hk _ _ _ _ _ _ hL2)
theorem b_start {c : Int32} : (sp_start S c).1 ≤ 3 := by
  unfold sp_start
  repeat' split
  all_goals first | exact Nat.zero_le _ | exact Nat.le_of_ble_eq_true rfl
set_option maxRecDepth 100000 in
theorem la_start (hL : LI E sh sz V x S) (hi : i + 5 ≤ E.2.2.2.2.2.2.1) (hc : cu + 2 ≤ 603072) (hs : su + 12 ≤ 7215210) (hk : LK E tb nm P x i cu su) : G E (ML_law tb nm) P sh sz V cu su 1019 [some (.ref E.2.2.2.2.2.1), some (.ref x), some (.ref (x + 284)), some (.ref (x + 292)), some (.ref (x + 293)), some (.int (nI i)), z6, z7] [] := by
  obtain ⟨hC, hI, ⟨th, hM⟩, hW, ho, hd, hsz, hlen⟩ := id hL
  obtain ⟨q, hq⟩ : ∃ q, q = sp_start S (E.2.2.2.2.2.2.2 (i + 1)) := ⟨_, rfl⟩
  have hI2 : InvS q.2.2 := by rw [hq]; exact s_start hI
  have hb3 : q.1 ≤ 3 := by rw [hq]; exact b_start
  have hv : ∃ w, q.2.1 = .int w := by rw [hq]; exact v_start
  have hw : MCH E YL_start [(0, 9, 12, 22), (0, 9, 15, 47)] [.ref x, .int (E.2.2.2.2.2.2.2 (i + 1)), .ref (x + 292)] sh sz V (WI x (x + 292) sh sz V q) := by rw [hq]; exact w_start hC hI hW ho (by omega) (by omega)
  refine g_aload_n dL_law_1019 rfl ?_
  refine g_aload_n dL_law_1020 rfl ?_
  refine g_iload dL_law_1021 rfl ?_
  refine g_iconst (v := nI 1) dL_law_1023 (by decide) ?_
  refine g_iadd dL_law_1024 ?_
  refine g_sld (k := i + 1) dL_law_1025 (nI_add _ _) (by omega) hlen ?_
  refine g_aload_n dL_law_1026 rfl ?_
  refine g_callSH (M := (ML_law tb nm)) (pc := 1027) (Y := YL_start) (gIn_SH ml_L_180 wt_L_start ini_L wc_L_start) yn_L_start dL_law_1027 hw rfl rfl (lroom (a := 0) (b := 0) rfl hc hs) (Nat.le_of_ble_eq_true rfl) (fun _ _ _ _ h => h.1.1) (fun _ _ _ _ h => nomatch h.2.2.2) ?_
  rintro v sh1 sz1 V1 ⟨hE1, hC1, hv1, hr⟩
  cases hr
  have hM1 : MS sh1 V1 (x + 284) S th := LI.mod hM hsz hE1 (by omega)
  have ho1 := ((hE1.2.1 (x + 292) (by omega)).1).trans ho
  have hr : MC E YX7_start [.ref (x + 284), .int (E.2.2.2.2.2.2.2 (i + 1))] sh1 sz1 V1 (P7 sh1 (x + 284) sz1 V1 q) := by rw [hq]; exact r_start hM1 hI.1.1 p7
  refine g_istore dL_law_1030 (Nat.le_of_ble_eq_true rfl) rfl ?_
  show G _ _ _ _ _ _ _ _ _ [_, _, _, _, _, _, _, _] _
  refine g_aload_n dL_law_1032 rfl ?_
  refine g_aload_n dL_law_1033 rfl ?_
  refine g_iload dL_law_1034 rfl ?_
  refine g_iconst (v := nI 1) dL_law_1036 (by decide) ?_
  refine g_iadd dL_law_1037 ?_
  refine g_sld (k := i + 1) dL_law_1038 (nI_add _ _) (by omega) hlen ?_
  refine g_callV (M := (ML_law tb nm)) (pc := 1039) (Y := YX7_start) sv_L_182 rfl yn_X7_start 9 (by decide) rfl rfl dL_law_1039 hr (hM1.choose_spec.1.1) rfl rfl (lroom (a := 1) (b := 6) rfl hc hs) (Nat.le_of_ble_eq_true rfl) (fun _ _ _ _ h => Nat.le_of_eq h.2.1.symm) ?_ (fun _ _ _ _ h => by obtain ⟨-, -, w, -, -, -, h⟩ := h; exact nomatch h)
  rintro v sh2 sz2 V2 ⟨rfl, rfl, w2, hf2, hv2, hM2, hr2⟩
  cases hr2
  have hL2 : LI E sh2 sz2 V2 x q.2.2 := LI.next hL (Or.inl hE1) hC1 hM2 hf2 hI2
  refine g_istore dL_law_1042 (Nat.le_of_ble_eq_true rfl) rfl ?_
  show G _ _ _ _ _ _ _ _ _ [_, _, _, _, _, _, _, _] _
  refine g_aload_n dL_law_1044 rfl ?_
  refine g_callV (M := (ML_law tb nm)) (pc := 1045) (Y := YX7_thrown) sv_L_136 rfl yn_X7_thrown 9 (by decide) rfl rfl dL_law_1045 (r_thrown (E := E) hM2 (pR_ok (v := some (.int (nI q.1))))) (hM2.choose_spec.1.1) rfl rfl (lroom (a := 1) (b := 6) rfl hc hs) (Nat.le_of_ble_eq_true rfl) (fun _ _ _ _ h => Nat.le_of_eq h.2.2.1.symm) ?_ (fun _ _ _ _ h => nomatch h.1)
  rintro v sh3 sz3 V3 ⟨h3, rfl, rfl, rfl⟩
  cases h3
  refine g_iload dL_law_1048 rfl ?_
  refine g_icmp_eq (tgt := 1055) dL_law_1050 (by decide) (fun _ => ?_) (fun hq => absurd (rfl) hq)
  refine g_iload dL_law_1055 rfl ?_
  refine g_if_ne (tgt := 1072) dL_law_1057 (by decide) (fun bz => ?_) (fun bz => ?_)
  · refine g_jump (tgt := 2250) dL_law_1072 (by decide) ?_
    exact g_widen (cu + 2) (su + 12) (by show cu + 1 + 0 + 0 ≤ cu + 2; omega) (by show su + 6 + 0 + 0 ≤ su + 12; omega) (hk _ _ _ _ _ _ hL2)
  · have q0 := nI_z hb3 bz
    obtain ⟨w, hw2⟩ := hv
    have e2 := hv2 q0
    rw [hw2] at e2
    cases e2
    have e3 : V3 (x + 292) 0 = .long w2.toInt64 := by rw [hf2 _ (by omega)]; exact hv1 w2 q0 hw2
    refine g_aload_n dL_law_1060 rfl ?_
    refine g_iconst (v := nI 0) dL_law_1061 (by decide) ?_
    refine g_laload dL_law_1062 ho1 (vp_in_nI (by decide) (by decide)) (at_nI (by decide) e3) ?_
    refine g_iload dL_law_1063 rfl ?_
    refine g_i2l dL_law_1065 rfl ?_
    refine g_lcmp dL_law_1066 ?_
    rw [lcmp_z rfl]
    refine g_if_eq (tgt := 1072) dL_law_1067 (by decide) (fun _ => ?_) (fun hq => absurd (rfl) hq)
    refine g_jump (tgt := 2250) dL_law_1072 (by decide) ?_
    exact g_widen (cu + 2) (su + 12) (by show cu + 1 + 0 + 0 ≤ cu + 2; omega) (by show su + 6 + 0 + 0 ≤ su + 12; omega) (hk _ _ _ _ _ _ hL2)
theorem b_roll {c : Int32} : (sp_roll S c).1 ≤ 3 := by
  unfold sp_roll
  repeat' split
  all_goals first | exact Nat.zero_le _ | exact Nat.le_of_ble_eq_true rfl
set_option maxRecDepth 100000 in
theorem la_roll (hL : LI E sh sz V x S) (hi : i + 5 ≤ E.2.2.2.2.2.2.1) (hc : cu + 2 ≤ 603072) (hs : su + 12 ≤ 7215210) (hk : LK E tb nm P x i cu su) : G E (ML_law tb nm) P sh sz V cu su 1075 [some (.ref E.2.2.2.2.2.1), some (.ref x), some (.ref (x + 284)), some (.ref (x + 292)), some (.ref (x + 293)), some (.int (nI i)), z6, z7] [] := by
  obtain ⟨hC, hI, ⟨th, hM⟩, hW, ho, hd, hsz, hlen⟩ := id hL
  obtain ⟨q, hq⟩ : ∃ q, q = sp_roll S (E.2.2.2.2.2.2.2 (i + 1)) := ⟨_, rfl⟩
  have hI2 : InvS q.2.2 := by rw [hq]; exact s_roll hI
  have hb3 : q.1 ≤ 3 := by rw [hq]; exact b_roll
  have hv : ∃ w, q.2.1 = .int w := by rw [hq]; exact v_roll
  have hw : MCH E YL_roll [(0, 9, 12, 22), (0, 9, 15, 47)] [.ref x, .int (E.2.2.2.2.2.2.2 (i + 1)), .ref (x + 292)] sh sz V (WI x (x + 292) sh sz V q) := by rw [hq]; exact w_roll hC hI hW ho (by omega) (by omega)
  refine g_aload_n dL_law_1075 rfl ?_
  refine g_aload_n dL_law_1076 rfl ?_
  refine g_iload dL_law_1077 rfl ?_
  refine g_iconst (v := nI 1) dL_law_1079 (by decide) ?_
  refine g_iadd dL_law_1080 ?_
  refine g_sld (k := i + 1) dL_law_1081 (nI_add _ _) (by omega) hlen ?_
  refine g_aload_n dL_law_1082 rfl ?_
  refine g_callSH (M := (ML_law tb nm)) (pc := 1083) (Y := YL_roll) (gIn_SH ml_L_183 wt_L_roll ini_L wc_L_roll) yn_L_roll dL_law_1083 hw rfl rfl (lroom (a := 0) (b := 0) rfl hc hs) (Nat.le_of_ble_eq_true rfl) (fun _ _ _ _ h => h.1.1) (fun _ _ _ _ h => nomatch h.2.2.2) ?_
  rintro v sh1 sz1 V1 ⟨hE1, hC1, hv1, hr⟩
  cases hr
  have hM1 : MS sh1 V1 (x + 284) S th := LI.mod hM hsz hE1 (by omega)
  have ho1 := ((hE1.2.1 (x + 292) (by omega)).1).trans ho
  have hr : MC E YX7_roll [.ref (x + 284), .int (E.2.2.2.2.2.2.2 (i + 1))] sh1 sz1 V1 (P7 sh1 (x + 284) sz1 V1 q) := by rw [hq]; exact r_roll hM1 hI.1.1 p7
  refine g_istore dL_law_1086 (Nat.le_of_ble_eq_true rfl) rfl ?_
  show G _ _ _ _ _ _ _ _ _ [_, _, _, _, _, _, _, _] _
  refine g_aload_n dL_law_1088 rfl ?_
  refine g_aload_n dL_law_1089 rfl ?_
  refine g_iload dL_law_1090 rfl ?_
  refine g_iconst (v := nI 1) dL_law_1092 (by decide) ?_
  refine g_iadd dL_law_1093 ?_
  refine g_sld (k := i + 1) dL_law_1094 (nI_add _ _) (by omega) hlen ?_
  refine g_callV (M := (ML_law tb nm)) (pc := 1095) (Y := YX7_roll) sv_L_185 rfl yn_X7_roll 9 (by decide) rfl rfl dL_law_1095 hr (hM1.choose_spec.1.1) rfl rfl (lroom (a := 1) (b := 6) rfl hc hs) (Nat.le_of_ble_eq_true rfl) (fun _ _ _ _ h => Nat.le_of_eq h.2.1.symm) ?_ (fun _ _ _ _ h => by obtain ⟨-, -, w, -, -, -, h⟩ := h; exact nomatch h)
  rintro v sh2 sz2 V2 ⟨rfl, rfl, w2, hf2, hv2, hM2, hr2⟩
  cases hr2
  have hL2 : LI E sh2 sz2 V2 x q.2.2 := LI.next hL (Or.inl hE1) hC1 hM2 hf2 hI2
  refine g_istore dL_law_1098 (Nat.le_of_ble_eq_true rfl) rfl ?_
  show G _ _ _ _ _ _ _ _ _ [_, _, _, _, _, _, _, _] _
  refine g_aload_n dL_law_1100 rfl ?_
  refine g_callV (M := (ML_law tb nm)) (pc := 1101) (Y := YX7_thrown) sv_L_136 rfl yn_X7_thrown 9 (by decide) rfl rfl dL_law_1101 (r_thrown (E := E) hM2 (pR_ok (v := some (.int (nI q.1))))) (hM2.choose_spec.1.1) rfl rfl (lroom (a := 1) (b := 6) rfl hc hs) (Nat.le_of_ble_eq_true rfl) (fun _ _ _ _ h => Nat.le_of_eq h.2.2.1.symm) ?_ (fun _ _ _ _ h => nomatch h.1)
  rintro v sh3 sz3 V3 ⟨h3, rfl, rfl, rfl⟩
  cases h3
  refine g_iload dL_law_1104 rfl ?_
  refine g_icmp_eq (tgt := 1111) dL_law_1106 (by decide) (fun _ => ?_) (fun hq => absurd (rfl) hq)
  refine g_iload dL_law_1111 rfl ?_
  refine g_if_ne (tgt := 1128) dL_law_1113 (by decide) (fun bz => ?_) (fun bz => ?_)
  · refine g_jump (tgt := 2250) dL_law_1128 (by decide) ?_
    exact g_widen (cu + 2) (su + 12) (by show cu + 1 + 0 + 0 ≤ cu + 2; omega) (by show su + 6 + 0 + 0 ≤ su + 12; omega) (hk _ _ _ _ _ _ hL2)
  · have q0 := nI_z hb3 bz
    obtain ⟨w, hw2⟩ := hv
    have e2 := hv2 q0
    rw [hw2] at e2
    cases e2
    have e3 : V3 (x + 292) 0 = .long w2.toInt64 := by rw [hf2 _ (by omega)]; exact hv1 w2 q0 hw2
    refine g_aload_n dL_law_1116 rfl ?_
    refine g_iconst (v := nI 0) dL_law_1117 (by decide) ?_
    refine g_laload dL_law_1118 ho1 (vp_in_nI (by decide) (by decide)) (at_nI (by decide) e3) ?_
    refine g_iload dL_law_1119 rfl ?_
    refine g_i2l dL_law_1121 rfl ?_
    refine g_lcmp dL_law_1122 ?_
    rw [lcmp_z rfl]
    refine g_if_eq (tgt := 1128) dL_law_1123 (by decide) (fun _ => ?_) (fun hq => absurd (rfl) hq)
    refine g_jump (tgt := 2250) dL_law_1128 (by decide) ?_
    exact g_widen (cu + 2) (su + 12) (by show cu + 1 + 0 + 0 ≤ cu + 2; omega) (by show su + 6 + 0 + 0 ≤ su + 12; omega) (hk _ _ _ _ _ _ hL2)
theorem b_why {c d : Int32} : (sp_why S c d).1 ≤ 3 := by
  unfold sp_why
  repeat' split
  all_goals first | exact Nat.zero_le _ | exact Nat.le_of_ble_eq_true rfl
theorem u_why {c d : Int32} : (sp_why S c d).2.2 = S := by
  unfold sp_why
  repeat' split
  all_goals rfl
set_option maxRecDepth 100000 in
theorem la_why (hL : LI E sh sz V x S) (hi : i + 5 ≤ E.2.2.2.2.2.2.1) (hc : cu + 2 ≤ 603072) (hs : su + 12 ≤ 7215210) (hk : LK E tb nm P x i cu su) : G E (ML_law tb nm) P sh sz V cu su 1131 [some (.ref E.2.2.2.2.2.1), some (.ref x), some (.ref (x + 284)), some (.ref (x + 292)), some (.ref (x + 293)), some (.int (nI i)), z6, z7] [] := by
  obtain ⟨hC, hI, ⟨th, hM⟩, hW, ho, hd, hsz, hlen⟩ := id hL
  by_cases zb : E.2.2.2.2.2.2.2 (i + 2) = 0
  · skip
    obtain ⟨q, hq⟩ : ∃ q, q = sp_why S (E.2.2.2.2.2.2.2 (i + 1)) (nI 0) := ⟨_, rfl⟩
    have hI2 : InvS q.2.2 := by rw [hq]; rw [u_why]; exact hI
    have hb3 : q.1 ≤ 3 := by rw [hq]; exact b_why
    have hv : ∃ w, q.2.1 = .int w := by rw [hq]; exact v_why
    have hw : MCH E YL_why [(0, 10, 13, 22)] [.ref x, .int (E.2.2.2.2.2.2.2 (i + 1)), .int (nI 0), .ref (x + 292)] sh sz V (WI x (x + 292) sh sz V q) := by rw [hq]; exact w_why hC hI hW ho (by omega) (by omega)
    refine g_aload_n dL_law_1131 rfl ?_
    refine g_aload_n dL_law_1132 rfl ?_
    refine g_iload dL_law_1133 rfl ?_
    refine g_iconst (v := nI 1) dL_law_1135 (by decide) ?_
    refine g_iadd dL_law_1136 ?_
    refine g_sld (k := i + 1) dL_law_1137 (nI_add _ _) (by omega) hlen ?_
    refine g_aload_n dL_law_1138 rfl ?_
    refine g_iload dL_law_1139 rfl ?_
    refine g_iconst (v := nI 2) dL_law_1141 (by decide) ?_
    refine g_iadd dL_law_1142 ?_
    refine g_sld (k := i + 2) dL_law_1143 (nI_add _ _) (by omega) hlen ?_
    refine g_if_eq (tgt := 1151) dL_law_1144 (by decide) (fun _ => ?_) (fun hq => absurd (zb) hq)
    refine g_iconst (v := nI 0) dL_law_1151 (by decide) ?_
    refine g_aload_n dL_law_1152 rfl ?_
    refine g_callSH (M := (ML_law tb nm)) (pc := 1153) (Y := YL_why) (gIn_SH ml_L_186 wt_L_why ini_L wc_L_why) yn_L_why dL_law_1153 hw rfl rfl (lroom (a := 0) (b := 0) rfl hc hs) (Nat.le_of_ble_eq_true rfl) (fun _ _ _ _ h => h.1.1) (fun _ _ _ _ h => nomatch h.2.2.2) ?_
    rintro v sh1 sz1 V1 ⟨hE1, hC1, hv1, hr⟩
    cases hr
    have hM1 : MS sh1 V1 (x + 284) S th := LI.mod hM hsz hE1 (by omega)
    have ho1 := ((hE1.2.1 (x + 292) (by omega)).1).trans ho
    have hr : MC E YX7_why [.ref (x + 284), .int (E.2.2.2.2.2.2.2 (i + 1)), .int (nI 0)] sh1 sz1 V1 (P7 sh1 (x + 284) sz1 V1 q) := by rw [hq]; exact r_why hM1 hI.1.1 p7
    refine g_istore dL_law_1156 (Nat.le_of_ble_eq_true rfl) rfl ?_
    show G _ _ _ _ _ _ _ _ _ [_, _, _, _, _, _, _, _] _
    refine g_aload_n dL_law_1158 rfl ?_
    refine g_aload_n dL_law_1159 rfl ?_
    refine g_iload dL_law_1160 rfl ?_
    refine g_iconst (v := nI 1) dL_law_1162 (by decide) ?_
    refine g_iadd dL_law_1163 ?_
    refine g_sld (k := i + 1) dL_law_1164 (nI_add _ _) (by omega) hlen ?_
    refine g_aload_n dL_law_1165 rfl ?_
    refine g_iload dL_law_1166 rfl ?_
    refine g_iconst (v := nI 2) dL_law_1168 (by decide) ?_
    refine g_iadd dL_law_1169 ?_
    refine g_sld (k := i + 2) dL_law_1170 (nI_add _ _) (by omega) hlen ?_
    refine g_if_eq (tgt := 1178) dL_law_1171 (by decide) (fun _ => ?_) (fun hq => absurd (zb) hq)
    refine g_iconst (v := nI 0) dL_law_1178 (by decide) ?_
    refine g_callV (M := (ML_law tb nm)) (pc := 1179) (Y := YX7_why) sv_L_189 rfl yn_X7_why 9 (by decide) rfl rfl dL_law_1179 hr (hM1.choose_spec.1.1) rfl rfl (lroom (a := 1) (b := 6) rfl hc hs) (Nat.le_of_ble_eq_true rfl) (fun _ _ _ _ h => Nat.le_of_eq h.2.1.symm) ?_ (fun _ _ _ _ h => by obtain ⟨-, -, w, -, -, -, h⟩ := h; exact nomatch h)
    rintro v sh2 sz2 V2 ⟨rfl, rfl, w2, hf2, hv2, hM2, hr2⟩
    cases hr2
    have hL2 : LI E sh2 sz2 V2 x q.2.2 := LI.next hL (Or.inl hE1) hC1 hM2 hf2 hI2
    refine g_istore dL_law_1182 (Nat.le_of_ble_eq_true rfl) rfl ?_
    show G _ _ _ _ _ _ _ _ _ [_, _, _, _, _, _, _, _] _
    refine g_aload_n dL_law_1184 rfl ?_
    refine g_callV (M := (ML_law tb nm)) (pc := 1185) (Y := YX7_thrown) sv_L_136 rfl yn_X7_thrown 9 (by decide) rfl rfl dL_law_1185 (r_thrown (E := E) hM2 (pR_ok (v := some (.int (nI q.1))))) (hM2.choose_spec.1.1) rfl rfl (lroom (a := 1) (b := 6) rfl hc hs) (Nat.le_of_ble_eq_true rfl) (fun _ _ _ _ h => Nat.le_of_eq h.2.2.1.symm) ?_ (fun _ _ _ _ h => nomatch h.1)
    rintro v sh3 sz3 V3 ⟨h3, rfl, rfl, rfl⟩
    cases h3
    refine g_iload dL_law_1188 rfl ?_
    refine g_icmp_eq (tgt := 1195) dL_law_1190 (by decide) (fun _ => ?_) (fun hq => absurd (rfl) hq)
    refine g_iload dL_law_1195 rfl ?_
    refine g_if_ne (tgt := 1212) dL_law_1197 (by decide) (fun bz => ?_) (fun bz => ?_)
    · refine g_jump (tgt := 2250) dL_law_1212 (by decide) ?_
      exact g_widen (cu + 2) (su + 12) (by show cu + 1 + 0 + 0 ≤ cu + 2; omega) (by show su + 6 + 0 + 0 ≤ su + 12; omega) (hk _ _ _ _ _ _ hL2)
    · have q0 := nI_z hb3 bz
      obtain ⟨w, hw2⟩ := hv
      have e2 := hv2 q0
      rw [hw2] at e2
      cases e2
      have e3 : V3 (x + 292) 0 = .long w2.toInt64 := by rw [hf2 _ (by omega)]; exact hv1 w2 q0 hw2
      refine g_aload_n dL_law_1200 rfl ?_
      refine g_iconst (v := nI 0) dL_law_1201 (by decide) ?_
      refine g_laload dL_law_1202 ho1 (vp_in_nI (by decide) (by decide)) (at_nI (by decide) e3) ?_
      refine g_iload dL_law_1203 rfl ?_
      refine g_i2l dL_law_1205 rfl ?_
      refine g_lcmp dL_law_1206 ?_
      rw [lcmp_z rfl]
      refine g_if_eq (tgt := 1212) dL_law_1207 (by decide) (fun _ => ?_) (fun hq => absurd (rfl) hq)
      refine g_jump (tgt := 2250) dL_law_1212 (by decide) ?_
      exact g_widen (cu + 2) (su + 12) (by show cu + 1 + 0 + 0 ≤ cu + 2; omega) (by show su + 6 + 0 + 0 ≤ su + 12; omega) (hk _ _ _ _ _ _ hL2)
  · skip
    obtain ⟨q, hq⟩ : ∃ q, q = sp_why S (E.2.2.2.2.2.2.2 (i + 1)) (nI 1) := ⟨_, rfl⟩
    have hI2 : InvS q.2.2 := by rw [hq]; rw [u_why]; exact hI
    have hb3 : q.1 ≤ 3 := by rw [hq]; exact b_why
    have hv : ∃ w, q.2.1 = .int w := by rw [hq]; exact v_why
    have hw : MCH E YL_why [(0, 10, 13, 22)] [.ref x, .int (E.2.2.2.2.2.2.2 (i + 1)), .int (nI 1), .ref (x + 292)] sh sz V (WI x (x + 292) sh sz V q) := by rw [hq]; exact w_why hC hI hW ho (by omega) (by omega)
    refine g_aload_n dL_law_1131 rfl ?_
    refine g_aload_n dL_law_1132 rfl ?_
    refine g_iload dL_law_1133 rfl ?_
    refine g_iconst (v := nI 1) dL_law_1135 (by decide) ?_
    refine g_iadd dL_law_1136 ?_
    refine g_sld (k := i + 1) dL_law_1137 (nI_add _ _) (by omega) hlen ?_
    refine g_aload_n dL_law_1138 rfl ?_
    refine g_iload dL_law_1139 rfl ?_
    refine g_iconst (v := nI 2) dL_law_1141 (by decide) ?_
    refine g_iadd dL_law_1142 ?_
    refine g_sld (k := i + 2) dL_law_1143 (nI_add _ _) (by omega) hlen ?_
    refine g_if_eq (tgt := 1151) dL_law_1144 (by decide) (fun hq => absurd hq (zb)) (fun _ => ?_)
    refine g_iconst (v := nI 1) dL_law_1147 (by decide) ?_
    refine g_jump (tgt := 1152) dL_law_1148 (by decide) ?_
    refine g_aload_n dL_law_1152 rfl ?_
    refine g_callSH (M := (ML_law tb nm)) (pc := 1153) (Y := YL_why) (gIn_SH ml_L_186 wt_L_why ini_L wc_L_why) yn_L_why dL_law_1153 hw rfl rfl (lroom (a := 0) (b := 0) rfl hc hs) (Nat.le_of_ble_eq_true rfl) (fun _ _ _ _ h => h.1.1) (fun _ _ _ _ h => nomatch h.2.2.2) ?_
    rintro v sh1 sz1 V1 ⟨hE1, hC1, hv1, hr⟩
    cases hr
    have hM1 : MS sh1 V1 (x + 284) S th := LI.mod hM hsz hE1 (by omega)
    have ho1 := ((hE1.2.1 (x + 292) (by omega)).1).trans ho
    have hr : MC E YX7_why [.ref (x + 284), .int (E.2.2.2.2.2.2.2 (i + 1)), .int (nI 1)] sh1 sz1 V1 (P7 sh1 (x + 284) sz1 V1 q) := by rw [hq]; exact r_why hM1 hI.1.1 p7
    refine g_istore dL_law_1156 (Nat.le_of_ble_eq_true rfl) rfl ?_
    show G _ _ _ _ _ _ _ _ _ [_, _, _, _, _, _, _, _] _
    refine g_aload_n dL_law_1158 rfl ?_
    refine g_aload_n dL_law_1159 rfl ?_
    refine g_iload dL_law_1160 rfl ?_
    refine g_iconst (v := nI 1) dL_law_1162 (by decide) ?_
    refine g_iadd dL_law_1163 ?_
    refine g_sld (k := i + 1) dL_law_1164 (nI_add _ _) (by omega) hlen ?_
    refine g_aload_n dL_law_1165 rfl ?_
    refine g_iload dL_law_1166 rfl ?_
    refine g_iconst (v := nI 2) dL_law_1168 (by decide) ?_
    refine g_iadd dL_law_1169 ?_
    refine g_sld (k := i + 2) dL_law_1170 (nI_add _ _) (by omega) hlen ?_
    refine g_if_eq (tgt := 1178) dL_law_1171 (by decide) (fun hq => absurd hq (zb)) (fun _ => ?_)
    refine g_iconst (v := nI 1) dL_law_1174 (by decide) ?_
    refine g_jump (tgt := 1179) dL_law_1175 (by decide) ?_
    refine g_callV (M := (ML_law tb nm)) (pc := 1179) (Y := YX7_why) sv_L_189 rfl yn_X7_why 9 (by decide) rfl rfl dL_law_1179 hr (hM1.choose_spec.1.1) rfl rfl (lroom (a := 1) (b := 6) rfl hc hs) (Nat.le_of_ble_eq_true rfl) (fun _ _ _ _ h => Nat.le_of_eq h.2.1.symm) ?_ (fun _ _ _ _ h => by obtain ⟨-, -, w, -, -, -, h⟩ := h; exact nomatch h)
    rintro v sh2 sz2 V2 ⟨rfl, rfl, w2, hf2, hv2, hM2, hr2⟩
    cases hr2
    have hL2 : LI E sh2 sz2 V2 x q.2.2 := LI.next hL (Or.inl hE1) hC1 hM2 hf2 hI2
    refine g_istore dL_law_1182 (Nat.le_of_ble_eq_true rfl) rfl ?_
    show G _ _ _ _ _ _ _ _ _ [_, _, _, _, _, _, _, _] _
    refine g_aload_n dL_law_1184 rfl ?_
    refine g_callV (M := (ML_law tb nm)) (pc := 1185) (Y := YX7_thrown) sv_L_136 rfl yn_X7_thrown 9 (by decide) rfl rfl dL_law_1185 (r_thrown (E := E) hM2 (pR_ok (v := some (.int (nI q.1))))) (hM2.choose_spec.1.1) rfl rfl (lroom (a := 1) (b := 6) rfl hc hs) (Nat.le_of_ble_eq_true rfl) (fun _ _ _ _ h => Nat.le_of_eq h.2.2.1.symm) ?_ (fun _ _ _ _ h => nomatch h.1)
    rintro v sh3 sz3 V3 ⟨h3, rfl, rfl, rfl⟩
    cases h3
    refine g_iload dL_law_1188 rfl ?_
    refine g_icmp_eq (tgt := 1195) dL_law_1190 (by decide) (fun _ => ?_) (fun hq => absurd (rfl) hq)
    refine g_iload dL_law_1195 rfl ?_
    refine g_if_ne (tgt := 1212) dL_law_1197 (by decide) (fun bz => ?_) (fun bz => ?_)
    · refine g_jump (tgt := 2250) dL_law_1212 (by decide) ?_
      exact g_widen (cu + 2) (su + 12) (by show cu + 1 + 0 + 0 ≤ cu + 2; omega) (by show su + 6 + 0 + 0 ≤ su + 12; omega) (hk _ _ _ _ _ _ hL2)
    · have q0 := nI_z hb3 bz
      obtain ⟨w, hw2⟩ := hv
      have e2 := hv2 q0
      rw [hw2] at e2
      cases e2
      have e3 : V3 (x + 292) 0 = .long w2.toInt64 := by rw [hf2 _ (by omega)]; exact hv1 w2 q0 hw2
      refine g_aload_n dL_law_1200 rfl ?_
      refine g_iconst (v := nI 0) dL_law_1201 (by decide) ?_
      refine g_laload dL_law_1202 ho1 (vp_in_nI (by decide) (by decide)) (at_nI (by decide) e3) ?_
      refine g_iload dL_law_1203 rfl ?_
      refine g_i2l dL_law_1205 rfl ?_
      refine g_lcmp dL_law_1206 ?_
      rw [lcmp_z rfl]
      refine g_if_eq (tgt := 1212) dL_law_1207 (by decide) (fun _ => ?_) (fun hq => absurd (rfl) hq)
      refine g_jump (tgt := 2250) dL_law_1212 (by decide) ?_
      exact g_widen (cu + 2) (su + 12) (by show cu + 1 + 0 + 0 ≤ cu + 2; omega) (by show su + 6 + 0 + 0 ≤ su + 12; omega) (hk _ _ _ _ _ _ hL2)
theorem b_convoyOf {c w : Int32} : (sp_convoyOf S c w).1 ≤ 3 := by
  unfold sp_convoyOf
  repeat' split
  all_goals first | exact Nat.zero_le _ | exact Nat.le_of_ble_eq_true rfl
theorem u_convoyOf {c w : Int32} : (sp_convoyOf S c w).2.2 = S := by
  unfold sp_convoyOf
  repeat' split
  all_goals rfl
set_option maxRecDepth 100000 in
theorem la_convoyOf (hL : LI E sh sz V x S) (hi : i + 5 ≤ E.2.2.2.2.2.2.1) (hc : cu + 2 ≤ 603072) (hs : su + 12 ≤ 7215210) (hk : LK E tb nm P x i cu su) : G E (ML_law tb nm) P sh sz V cu su 1215 [some (.ref E.2.2.2.2.2.1), some (.ref x), some (.ref (x + 284)), some (.ref (x + 292)), some (.ref (x + 293)), some (.int (nI i)), z6, z7] [] := by
  obtain ⟨hC, hI, ⟨th, hM⟩, hW, ho, hd, hsz, hlen⟩ := id hL
  obtain ⟨q, hq⟩ : ∃ q, q = sp_convoyOf S (E.2.2.2.2.2.2.2 (i + 1)) (E.2.2.2.2.2.2.2 (i + 2)) := ⟨_, rfl⟩
  have hI2 : InvS q.2.2 := by rw [hq]; rw [u_convoyOf]; exact hI
  have hb3 : q.1 ≤ 3 := by rw [hq]; exact b_convoyOf
  have hv : ∃ w, q.2.1 = .int w := by rw [hq]; exact v_convoyOf
  have hw : MCH E YL_convoyOf [(0, 10, 13, 22), (0, 10, 17, 13)] [.ref x, .int (E.2.2.2.2.2.2.2 (i + 1)), .int (E.2.2.2.2.2.2.2 (i + 2)), .ref (x + 292)] sh sz V (WI x (x + 292) sh sz V q) := by rw [hq]; exact w_convoyOf hC hI hW ho (by omega) (by omega)
  refine g_aload_n dL_law_1215 rfl ?_
  refine g_aload_n dL_law_1216 rfl ?_
  refine g_iload dL_law_1217 rfl ?_
  refine g_iconst (v := nI 1) dL_law_1219 (by decide) ?_
  refine g_iadd dL_law_1220 ?_
  refine g_sld (k := i + 1) dL_law_1221 (nI_add _ _) (by omega) hlen ?_
  refine g_aload_n dL_law_1222 rfl ?_
  refine g_iload dL_law_1223 rfl ?_
  refine g_iconst (v := nI 2) dL_law_1225 (by decide) ?_
  refine g_iadd dL_law_1226 ?_
  refine g_sld (k := i + 2) dL_law_1227 (nI_add _ _) (by omega) hlen ?_
  refine g_aload_n dL_law_1228 rfl ?_
  refine g_callSH (M := (ML_law tb nm)) (pc := 1229) (Y := YL_convoyOf) (gIn_SH ml_L_190 wt_L_convoyOf ini_L wc_L_convoyOf) yn_L_convoyOf dL_law_1229 hw rfl rfl (lroom (a := 0) (b := 0) rfl hc hs) (Nat.le_of_ble_eq_true rfl) (fun _ _ _ _ h => h.1.1) (fun _ _ _ _ h => nomatch h.2.2.2) ?_
  rintro v sh1 sz1 V1 ⟨hE1, hC1, hv1, hr⟩
  cases hr
  have hM1 : MS sh1 V1 (x + 284) S th := LI.mod hM hsz hE1 (by omega)
  have ho1 := ((hE1.2.1 (x + 292) (by omega)).1).trans ho
  have hr : MC E YX7_convoyOf [.ref (x + 284), .int (E.2.2.2.2.2.2.2 (i + 1)), .int (E.2.2.2.2.2.2.2 (i + 2))] sh1 sz1 V1 (P7 sh1 (x + 284) sz1 V1 q) := by rw [hq]; exact r_convoyOf hM1 hI.1.1 p7
  refine g_istore dL_law_1232 (Nat.le_of_ble_eq_true rfl) rfl ?_
  show G _ _ _ _ _ _ _ _ _ [_, _, _, _, _, _, _, _] _
  refine g_aload_n dL_law_1234 rfl ?_
  refine g_aload_n dL_law_1235 rfl ?_
  refine g_iload dL_law_1236 rfl ?_
  refine g_iconst (v := nI 1) dL_law_1238 (by decide) ?_
  refine g_iadd dL_law_1239 ?_
  refine g_sld (k := i + 1) dL_law_1240 (nI_add _ _) (by omega) hlen ?_
  refine g_aload_n dL_law_1241 rfl ?_
  refine g_iload dL_law_1242 rfl ?_
  refine g_iconst (v := nI 2) dL_law_1244 (by decide) ?_
  refine g_iadd dL_law_1245 ?_
  refine g_sld (k := i + 2) dL_law_1246 (nI_add _ _) (by omega) hlen ?_
  refine g_callV (M := (ML_law tb nm)) (pc := 1247) (Y := YX7_convoyOf) sv_L_192 rfl yn_X7_convoyOf 9 (by decide) rfl rfl dL_law_1247 hr (hM1.choose_spec.1.1) rfl rfl (lroom (a := 1) (b := 6) rfl hc hs) (Nat.le_of_ble_eq_true rfl) (fun _ _ _ _ h => Nat.le_of_eq h.2.1.symm) ?_ (fun _ _ _ _ h => by obtain ⟨-, -, w, -, -, -, h⟩ := h; exact nomatch h)
  rintro v sh2 sz2 V2 ⟨rfl, rfl, w2, hf2, hv2, hM2, hr2⟩
  cases hr2
  have hL2 : LI E sh2 sz2 V2 x q.2.2 := LI.next hL (Or.inl hE1) hC1 hM2 hf2 hI2
  refine g_istore dL_law_1250 (Nat.le_of_ble_eq_true rfl) rfl ?_
  show G _ _ _ _ _ _ _ _ _ [_, _, _, _, _, _, _, _] _
  refine g_aload_n dL_law_1252 rfl ?_
  refine g_callV (M := (ML_law tb nm)) (pc := 1253) (Y := YX7_thrown) sv_L_136 rfl yn_X7_thrown 9 (by decide) rfl rfl dL_law_1253 (r_thrown (E := E) hM2 (pR_ok (v := some (.int (nI q.1))))) (hM2.choose_spec.1.1) rfl rfl (lroom (a := 1) (b := 6) rfl hc hs) (Nat.le_of_ble_eq_true rfl) (fun _ _ _ _ h => Nat.le_of_eq h.2.2.1.symm) ?_ (fun _ _ _ _ h => nomatch h.1)
  rintro v sh3 sz3 V3 ⟨h3, rfl, rfl, rfl⟩
  cases h3
  refine g_iload dL_law_1256 rfl ?_
  refine g_icmp_eq (tgt := 1263) dL_law_1258 (by decide) (fun _ => ?_) (fun hq => absurd (rfl) hq)
  refine g_iload dL_law_1263 rfl ?_
  refine g_if_ne (tgt := 1280) dL_law_1265 (by decide) (fun bz => ?_) (fun bz => ?_)
  · refine g_jump (tgt := 2250) dL_law_1280 (by decide) ?_
    exact g_widen (cu + 2) (su + 12) (by show cu + 1 + 0 + 0 ≤ cu + 2; omega) (by show su + 6 + 0 + 0 ≤ su + 12; omega) (hk _ _ _ _ _ _ hL2)
  · have q0 := nI_z hb3 bz
    obtain ⟨w, hw2⟩ := hv
    have e2 := hv2 q0
    rw [hw2] at e2
    cases e2
    have e3 : V3 (x + 292) 0 = .long w2.toInt64 := by rw [hf2 _ (by omega)]; exact hv1 w2 q0 hw2
    refine g_aload_n dL_law_1268 rfl ?_
    refine g_iconst (v := nI 0) dL_law_1269 (by decide) ?_
    refine g_laload dL_law_1270 ho1 (vp_in_nI (by decide) (by decide)) (at_nI (by decide) e3) ?_
    refine g_iload dL_law_1271 rfl ?_
    refine g_i2l dL_law_1273 rfl ?_
    refine g_lcmp dL_law_1274 ?_
    rw [lcmp_z rfl]
    refine g_if_eq (tgt := 1280) dL_law_1275 (by decide) (fun _ => ?_) (fun hq => absurd (rfl) hq)
    refine g_jump (tgt := 2250) dL_law_1280 (by decide) ?_
    exact g_widen (cu + 2) (su + 12) (by show cu + 1 + 0 + 0 ≤ cu + 2; omega) (by show su + 6 + 0 + 0 ≤ su + 12; omega) (hk _ _ _ _ _ _ hL2)
theorem b_truckOf {c p w : Int32} : (sp_truckOf S c p w).1 ≤ 3 := by
  unfold sp_truckOf
  repeat' split
  all_goals first | exact Nat.zero_le _ | exact Nat.le_of_ble_eq_true rfl
theorem u_truckOf {c p w : Int32} : (sp_truckOf S c p w).2.2 = S := by
  unfold sp_truckOf
  repeat' split
  all_goals rfl
set_option maxRecDepth 100000 in
theorem la_truckOf (hL : LI E sh sz V x S) (hi : i + 5 ≤ E.2.2.2.2.2.2.1) (hc : cu + 2 ≤ 603072) (hs : su + 12 ≤ 7215210) (hk : LK E tb nm P x i cu su) : G E (ML_law tb nm) P sh sz V cu su 1283 [some (.ref E.2.2.2.2.2.1), some (.ref x), some (.ref (x + 284)), some (.ref (x + 292)), some (.ref (x + 293)), some (.int (nI i)), z6, z7] [] := by
  obtain ⟨hC, hI, ⟨th, hM⟩, hW, ho, hd, hsz, hlen⟩ := id hL
  obtain ⟨q, hq⟩ : ∃ q, q = sp_truckOf S (E.2.2.2.2.2.2.2 (i + 1)) (E.2.2.2.2.2.2.2 (i + 2)) (E.2.2.2.2.2.2.2 (i + 3)) := ⟨_, rfl⟩
  have hI2 : InvS q.2.2 := by rw [hq]; rw [u_truckOf]; exact hI
  have hb3 : q.1 ≤ 3 := by rw [hq]; exact b_truckOf
  have hv : ∃ w, q.2.1 = .int w := by rw [hq]; exact v_truckOf
  have hw : MCH E YL_truckOf [(0, 12, 15, 22), (0, 12, 19, 13)] [.ref x, .int (E.2.2.2.2.2.2.2 (i + 1)), .int (E.2.2.2.2.2.2.2 (i + 2)), .int (E.2.2.2.2.2.2.2 (i + 3)), .ref (x + 292)] sh sz V (WI x (x + 292) sh sz V q) := by rw [hq]; exact w_truckOf hC hI hW ho (by omega) (by omega)
  refine g_aload_n dL_law_1283 rfl ?_
  refine g_aload_n dL_law_1284 rfl ?_
  refine g_iload dL_law_1285 rfl ?_
  refine g_iconst (v := nI 1) dL_law_1287 (by decide) ?_
  refine g_iadd dL_law_1288 ?_
  refine g_sld (k := i + 1) dL_law_1289 (nI_add _ _) (by omega) hlen ?_
  refine g_aload_n dL_law_1290 rfl ?_
  refine g_iload dL_law_1291 rfl ?_
  refine g_iconst (v := nI 2) dL_law_1293 (by decide) ?_
  refine g_iadd dL_law_1294 ?_
  refine g_sld (k := i + 2) dL_law_1295 (nI_add _ _) (by omega) hlen ?_
  refine g_aload_n dL_law_1296 rfl ?_
  refine g_iload dL_law_1297 rfl ?_
  refine g_iconst (v := nI 3) dL_law_1299 (by decide) ?_
  refine g_iadd dL_law_1300 ?_
  refine g_sld (k := i + 3) dL_law_1301 (nI_add _ _) (by omega) hlen ?_
  refine g_aload_n dL_law_1302 rfl ?_
  refine g_callSH (M := (ML_law tb nm)) (pc := 1303) (Y := YL_truckOf) (gIn_SH ml_L_193 wt_L_truckOf ini_L wc_L_truckOf) yn_L_truckOf dL_law_1303 hw rfl rfl (lroom (a := 0) (b := 0) rfl hc hs) (Nat.le_of_ble_eq_true rfl) (fun _ _ _ _ h => h.1.1) (fun _ _ _ _ h => nomatch h.2.2.2) ?_
  rintro v sh1 sz1 V1 ⟨hE1, hC1, hv1, hr⟩
  cases hr
  have hM1 : MS sh1 V1 (x + 284) S th := LI.mod hM hsz hE1 (by omega)
  have ho1 := ((hE1.2.1 (x + 292) (by omega)).1).trans ho
  have hr : MC E YX7_truckOf [.ref (x + 284), .int (E.2.2.2.2.2.2.2 (i + 1)), .int (E.2.2.2.2.2.2.2 (i + 2)), .int (E.2.2.2.2.2.2.2 (i + 3))] sh1 sz1 V1 (P7 sh1 (x + 284) sz1 V1 q) := by rw [hq]; exact r_truckOf hM1 hI.1.1 p7
  refine g_istore dL_law_1306 (Nat.le_of_ble_eq_true rfl) rfl ?_
  show G _ _ _ _ _ _ _ _ _ [_, _, _, _, _, _, _, _] _
  refine g_aload_n dL_law_1308 rfl ?_
  refine g_aload_n dL_law_1309 rfl ?_
  refine g_iload dL_law_1310 rfl ?_
  refine g_iconst (v := nI 1) dL_law_1312 (by decide) ?_
  refine g_iadd dL_law_1313 ?_
  refine g_sld (k := i + 1) dL_law_1314 (nI_add _ _) (by omega) hlen ?_
  refine g_aload_n dL_law_1315 rfl ?_
  refine g_iload dL_law_1316 rfl ?_
  refine g_iconst (v := nI 2) dL_law_1318 (by decide) ?_
  refine g_iadd dL_law_1319 ?_
  refine g_sld (k := i + 2) dL_law_1320 (nI_add _ _) (by omega) hlen ?_
  refine g_aload_n dL_law_1321 rfl ?_
  refine g_iload dL_law_1322 rfl ?_
  refine g_iconst (v := nI 3) dL_law_1324 (by decide) ?_
  refine g_iadd dL_law_1325 ?_
  refine g_sld (k := i + 3) dL_law_1326 (nI_add _ _) (by omega) hlen ?_
  refine g_callV (M := (ML_law tb nm)) (pc := 1327) (Y := YX7_truckOf) sv_L_195 rfl yn_X7_truckOf 9 (by decide) rfl rfl dL_law_1327 hr (hM1.choose_spec.1.1) rfl rfl (lroom (a := 1) (b := 6) rfl hc hs) (Nat.le_of_ble_eq_true rfl) (fun _ _ _ _ h => Nat.le_of_eq h.2.1.symm) ?_ (fun _ _ _ _ h => by obtain ⟨-, -, w, -, -, -, h⟩ := h; exact nomatch h)
  rintro v sh2 sz2 V2 ⟨rfl, rfl, w2, hf2, hv2, hM2, hr2⟩
  cases hr2
  have hL2 : LI E sh2 sz2 V2 x q.2.2 := LI.next hL (Or.inl hE1) hC1 hM2 hf2 hI2
  refine g_istore dL_law_1330 (Nat.le_of_ble_eq_true rfl) rfl ?_
  show G _ _ _ _ _ _ _ _ _ [_, _, _, _, _, _, _, _] _
  refine g_aload_n dL_law_1332 rfl ?_
  refine g_callV (M := (ML_law tb nm)) (pc := 1333) (Y := YX7_thrown) sv_L_136 rfl yn_X7_thrown 9 (by decide) rfl rfl dL_law_1333 (r_thrown (E := E) hM2 (pR_ok (v := some (.int (nI q.1))))) (hM2.choose_spec.1.1) rfl rfl (lroom (a := 1) (b := 6) rfl hc hs) (Nat.le_of_ble_eq_true rfl) (fun _ _ _ _ h => Nat.le_of_eq h.2.2.1.symm) ?_ (fun _ _ _ _ h => nomatch h.1)
  rintro v sh3 sz3 V3 ⟨h3, rfl, rfl, rfl⟩
  cases h3
  refine g_iload dL_law_1336 rfl ?_
  refine g_icmp_eq (tgt := 1343) dL_law_1338 (by decide) (fun _ => ?_) (fun hq => absurd (rfl) hq)
  refine g_iload dL_law_1343 rfl ?_
  refine g_if_ne (tgt := 1360) dL_law_1345 (by decide) (fun bz => ?_) (fun bz => ?_)
  · refine g_jump (tgt := 2250) dL_law_1360 (by decide) ?_
    exact g_widen (cu + 2) (su + 12) (by show cu + 1 + 0 + 0 ≤ cu + 2; omega) (by show su + 6 + 0 + 0 ≤ su + 12; omega) (hk _ _ _ _ _ _ hL2)
  · have q0 := nI_z hb3 bz
    obtain ⟨w, hw2⟩ := hv
    have e2 := hv2 q0
    rw [hw2] at e2
    cases e2
    have e3 : V3 (x + 292) 0 = .long w2.toInt64 := by rw [hf2 _ (by omega)]; exact hv1 w2 q0 hw2
    refine g_aload_n dL_law_1348 rfl ?_
    refine g_iconst (v := nI 0) dL_law_1349 (by decide) ?_
    refine g_laload dL_law_1350 ho1 (vp_in_nI (by decide) (by decide)) (at_nI (by decide) e3) ?_
    refine g_iload dL_law_1351 rfl ?_
    refine g_i2l dL_law_1353 rfl ?_
    refine g_lcmp dL_law_1354 ?_
    rw [lcmp_z rfl]
    refine g_if_eq (tgt := 1360) dL_law_1355 (by decide) (fun _ => ?_) (fun hq => absurd (rfl) hq)
    refine g_jump (tgt := 2250) dL_law_1360 (by decide) ?_
    exact g_widen (cu + 2) (su + 12) (by show cu + 1 + 0 + 0 ≤ cu + 2; omega) (by show su + 6 + 0 + 0 ≤ su + 12; omega) (hk _ _ _ _ _ _ hL2)
theorem b_load {c p : Int32} : (sp_load S c p).1 ≤ 3 := by
  unfold sp_load
  repeat' split
  all_goals first | exact Nat.zero_le _ | exact Nat.le_of_ble_eq_true rfl
theorem u_load {c p : Int32} : (sp_load S c p).2.2 = S := by
  unfold sp_load
  repeat' split
  all_goals rfl
set_option maxRecDepth 100000 in
theorem la_load (hL : LI E sh sz V x S) (hi : i + 5 ≤ E.2.2.2.2.2.2.1) (hc : cu + 2 ≤ 603072) (hs : su + 12 ≤ 7215210) (hk : LK E tb nm P x i cu su) : G E (ML_law tb nm) P sh sz V cu su 1363 [some (.ref E.2.2.2.2.2.1), some (.ref x), some (.ref (x + 284)), some (.ref (x + 292)), some (.ref (x + 293)), some (.int (nI i)), z6, z7] [] := by
  obtain ⟨hC, hI, ⟨th, hM⟩, hW, ho, hd, hsz, hlen⟩ := id hL
  obtain ⟨q, hq⟩ : ∃ q, q = sp_load S (E.2.2.2.2.2.2.2 (i + 1)) (E.2.2.2.2.2.2.2 (i + 2)) := ⟨_, rfl⟩
  have hI2 : InvS q.2.2 := by rw [hq]; rw [u_load]; exact hI
  have hb3 : q.1 ≤ 3 := by rw [hq]; exact b_load
  have hv : q.1 = 0 → ∃ w, q.2.1 = .float w ∧ vf_n32 w := by rw [hq]; exact v_load hI.1.1
  have hw : MCH E YL_load [(0, 10, 13, 22)] [.ref x, .int (E.2.2.2.2.2.2.2 (i + 1)), .int (E.2.2.2.2.2.2.2 (i + 2)), .ref (x + 293)] sh sz V (WF x (x + 293) sh sz V q) := by rw [hq]; exact w_load hC hI hW hd (by omega) (by omega)
  refine g_aload_n dL_law_1363 rfl ?_
  refine g_aload_n dL_law_1364 rfl ?_
  refine g_iload dL_law_1365 rfl ?_
  refine g_iconst (v := nI 1) dL_law_1367 (by decide) ?_
  refine g_iadd dL_law_1368 ?_
  refine g_sld (k := i + 1) dL_law_1369 (nI_add _ _) (by omega) hlen ?_
  refine g_aload_n dL_law_1370 rfl ?_
  refine g_iload dL_law_1371 rfl ?_
  refine g_iconst (v := nI 2) dL_law_1373 (by decide) ?_
  refine g_iadd dL_law_1374 ?_
  refine g_sld (k := i + 2) dL_law_1375 (nI_add _ _) (by omega) hlen ?_
  refine g_aload dL_law_1376 rfl ?_
  refine g_callSH (M := (ML_law tb nm)) (pc := 1378) (Y := YL_load) (gIn_SH ml_L_196 wt_L_load ini_L wc_L_load) yn_L_load dL_law_1378 hw rfl rfl (lroom (a := 0) (b := 0) rfl hc hs) (Nat.le_of_ble_eq_true rfl) (fun _ _ _ _ h => h.1.1) (fun _ _ _ _ h => nomatch h.2.2.2) ?_
  rintro v sh1 sz1 V1 ⟨hE1, hC1, hv1, hr⟩
  cases hr
  have hM1 : MS sh1 V1 (x + 284) S th := LI.mod hM hsz hE1 (by omega)
  have ho1 := ((hE1.2.1 (x + 293) (by omega)).1).trans hd
  have hr : MC E YX7_load [.ref (x + 284), .int (E.2.2.2.2.2.2.2 (i + 1)), .int (E.2.2.2.2.2.2.2 (i + 2))] sh1 sz1 V1 (P7F sh1 (x + 284) sz1 V1 q) := by rw [hq]; exact r_load hM1 hI.1.1 p7F
  refine g_istore dL_law_1381 (Nat.le_of_ble_eq_true rfl) rfl ?_
  show G _ _ _ _ _ _ _ _ _ [_, _, _, _, _, _, _, _] _
  refine g_aload_n dL_law_1383 rfl ?_
  refine g_aload_n dL_law_1384 rfl ?_
  refine g_iload dL_law_1385 rfl ?_
  refine g_iconst (v := nI 1) dL_law_1387 (by decide) ?_
  refine g_iadd dL_law_1388 ?_
  refine g_sld (k := i + 1) dL_law_1389 (nI_add _ _) (by omega) hlen ?_
  refine g_aload_n dL_law_1390 rfl ?_
  refine g_iload dL_law_1391 rfl ?_
  refine g_iconst (v := nI 2) dL_law_1393 (by decide) ?_
  refine g_iadd dL_law_1394 ?_
  refine g_sld (k := i + 2) dL_law_1395 (nI_add _ _) (by omega) hlen ?_
  refine g_callV (M := (ML_law tb nm)) (pc := 1396) (Y := YX7_load) sv_L_199 rfl yn_X7_load 9 (by decide) rfl rfl dL_law_1396 hr (hM1.choose_spec.1.1) rfl rfl (lroom (a := 1) (b := 6) rfl hc hs) (Nat.le_of_ble_eq_true rfl) (fun _ _ _ _ h => Nat.le_of_eq h.2.1.symm) ?_ (fun _ _ _ _ h => by obtain ⟨-, -, w, -, -, -, h⟩ := h; exact nomatch h)
  rintro v sh2 sz2 V2 ⟨rfl, rfl, w2, hf2, hv2, hM2, hr2⟩
  cases hr2
  have hL2 : LI E sh2 sz2 V2 x q.2.2 := LI.next hL (Or.inr hE1) hC1 hM2 hf2 hI2
  refine g_fstore dL_law_1399 (Nat.le_of_ble_eq_true rfl) rfl ?_
  show G _ _ _ _ _ _ _ _ _ [_, _, _, _, _, _, _, _] _
  refine g_aload_n dL_law_1401 rfl ?_
  refine g_callV (M := (ML_law tb nm)) (pc := 1402) (Y := YX7_thrown) sv_L_136 rfl yn_X7_thrown 9 (by decide) rfl rfl dL_law_1402 (r_thrown (E := E) hM2 (pR_ok (v := some (.int (nI q.1))))) (hM2.choose_spec.1.1) rfl rfl (lroom (a := 1) (b := 6) rfl hc hs) (Nat.le_of_ble_eq_true rfl) (fun _ _ _ _ h => Nat.le_of_eq h.2.2.1.symm) ?_ (fun _ _ _ _ h => nomatch h.1)
  rintro v sh3 sz3 V3 ⟨h3, rfl, rfl, rfl⟩
  cases h3
  refine g_iload dL_law_1405 rfl ?_
  refine g_icmp_eq (tgt := 1412) dL_law_1407 (by decide) (fun _ => ?_) (fun hq => absurd (rfl) hq)
  refine g_iload dL_law_1412 rfl ?_
  refine g_if_ne (tgt := 1450) dL_law_1414 (by decide) (fun bz => ?_) (fun bz => ?_)
  · refine g_jump (tgt := 2250) dL_law_1450 (by decide) ?_
    exact g_widen (cu + 2) (su + 12) (by show cu + 1 + 0 + 0 ≤ cu + 2; omega) (by show su + 6 + 0 + 0 ≤ su + 12; omega) (hk _ _ _ _ _ _ hL2)
  · have q0 := nI_z hb3 bz
    obtain ⟨w, hw2, hnn⟩ := hv q0
    have e2 := hv2 q0
    rw [hw2] at e2
    cases e2
    have e3 : V3 (x + 293) 0 = .double (FP.f2d w2) := by rw [hf2 _ (by omega)]; exact hv1 w2 q0 hw2
    refine g_aload dL_law_1417 rfl ?_
    refine g_iconst (v := nI 0) dL_law_1419 (by decide) ?_
    refine g_daload dL_law_1420 ho1 (vp_in_nI (by decide) (by decide)) (at_nI (by decide) e3) ?_
    refine g_fload dL_law_1421 rfl ?_
    refine g_f2d dL_law_1423 (vfd hnn) ?_
    refine g_dcmp dL_law_1424 ?_
    rw [dcmp_z hnn]
    refine g_if_eq (tgt := 1450) dL_law_1425 (by decide) (fun _ => ?_) (fun hq => absurd (rfl) hq)
    refine g_jump (tgt := 2250) dL_law_1450 (by decide) ?_
    exact g_widen (cu + 2) (su + 12) (by show cu + 1 + 0 + 0 ≤ cu + 2; omega) (by show su + 6 + 0 + 0 ≤ su + 12; omega) (hk _ _ _ _ _ _ hL2)
theorem b_at {a : Int32} : (sp_at S a).1 ≤ 3 := by
  unfold sp_at
  repeat' split
  all_goals first | exact Nat.zero_le _ | exact Nat.le_of_ble_eq_true rfl
theorem u_at {a : Int32} : (sp_at S a).2.2 = S := by
  unfold sp_at
  repeat' split
  all_goals rfl
set_option maxRecDepth 100000 in
theorem la_at (hL : LI E sh sz V x S) (hi : i + 5 ≤ E.2.2.2.2.2.2.1) (hc : cu + 2 ≤ 603072) (hs : su + 12 ≤ 7215210) (hk : LK E tb nm P x i cu su) : G E (ML_law tb nm) P sh sz V cu su 1453 [some (.ref E.2.2.2.2.2.1), some (.ref x), some (.ref (x + 284)), some (.ref (x + 292)), some (.ref (x + 293)), some (.int (nI i)), z6, z7] [] := by
  obtain ⟨hC, hI, ⟨th, hM⟩, hW, ho, hd, hsz, hlen⟩ := id hL
  obtain ⟨q, hq⟩ : ∃ q, q = sp_at S (E.2.2.2.2.2.2.2 (i + 1)) := ⟨_, rfl⟩
  have hI2 : InvS q.2.2 := by rw [hq]; rw [u_at]; exact hI
  have hb3 : q.1 ≤ 3 := by rw [hq]; exact b_at
  have hv : ∃ w, q.2.1 = .int w := by rw [hq]; exact v_at
  have hw : MCH E YL_at [(0, 9, 12, 22), (0, 9, 15, 27)] [.ref x, .int (E.2.2.2.2.2.2.2 (i + 1)), .ref (x + 292)] sh sz V (WI x (x + 292) sh sz V q) := by rw [hq]; exact w_at hC hI hW ho (by omega) (by omega)
  refine g_aload_n dL_law_1453 rfl ?_
  refine g_aload_n dL_law_1454 rfl ?_
  refine g_iload dL_law_1455 rfl ?_
  refine g_iconst (v := nI 1) dL_law_1457 (by decide) ?_
  refine g_iadd dL_law_1458 ?_
  refine g_sld (k := i + 1) dL_law_1459 (nI_add _ _) (by omega) hlen ?_
  refine g_aload_n dL_law_1460 rfl ?_
  refine g_callSH (M := (ML_law tb nm)) (pc := 1461) (Y := YL_at) (gIn_SH ml_L_200 wt_L_at ini_L wc_L_at) yn_L_at dL_law_1461 hw rfl rfl (lroom (a := 0) (b := 0) rfl hc hs) (Nat.le_of_ble_eq_true rfl) (fun _ _ _ _ h => h.1.1) (fun _ _ _ _ h => nomatch h.2.2.2) ?_
  rintro v sh1 sz1 V1 ⟨hE1, hC1, hv1, hr⟩
  cases hr
  have hM1 : MS sh1 V1 (x + 284) S th := LI.mod hM hsz hE1 (by omega)
  have ho1 := ((hE1.2.1 (x + 292) (by omega)).1).trans ho
  have hr : MC E YX7_at [.ref (x + 284), .int (E.2.2.2.2.2.2.2 (i + 1))] sh1 sz1 V1 (P7 sh1 (x + 284) sz1 V1 q) := by rw [hq]; exact r_at hM1 hI.1.1 p7
  refine g_istore dL_law_1464 (Nat.le_of_ble_eq_true rfl) rfl ?_
  show G _ _ _ _ _ _ _ _ _ [_, _, _, _, _, _, _, _] _
  refine g_aload_n dL_law_1466 rfl ?_
  refine g_aload_n dL_law_1467 rfl ?_
  refine g_iload dL_law_1468 rfl ?_
  refine g_iconst (v := nI 1) dL_law_1470 (by decide) ?_
  refine g_iadd dL_law_1471 ?_
  refine g_sld (k := i + 1) dL_law_1472 (nI_add _ _) (by omega) hlen ?_
  refine g_callV (M := (ML_law tb nm)) (pc := 1473) (Y := YX7_at) sv_L_202 rfl yn_X7_at 9 (by decide) rfl rfl dL_law_1473 hr (hM1.choose_spec.1.1) rfl rfl (lroom (a := 1) (b := 6) rfl hc hs) (Nat.le_of_ble_eq_true rfl) (fun _ _ _ _ h => Nat.le_of_eq h.2.1.symm) ?_ (fun _ _ _ _ h => by obtain ⟨-, -, w, -, -, -, h⟩ := h; exact nomatch h)
  rintro v sh2 sz2 V2 ⟨rfl, rfl, w2, hf2, hv2, hM2, hr2⟩
  cases hr2
  have hL2 : LI E sh2 sz2 V2 x q.2.2 := LI.next hL (Or.inl hE1) hC1 hM2 hf2 hI2
  refine g_istore dL_law_1476 (Nat.le_of_ble_eq_true rfl) rfl ?_
  show G _ _ _ _ _ _ _ _ _ [_, _, _, _, _, _, _, _] _
  refine g_aload_n dL_law_1478 rfl ?_
  refine g_callV (M := (ML_law tb nm)) (pc := 1479) (Y := YX7_thrown) sv_L_136 rfl yn_X7_thrown 9 (by decide) rfl rfl dL_law_1479 (r_thrown (E := E) hM2 (pR_ok (v := some (.int (nI q.1))))) (hM2.choose_spec.1.1) rfl rfl (lroom (a := 1) (b := 6) rfl hc hs) (Nat.le_of_ble_eq_true rfl) (fun _ _ _ _ h => Nat.le_of_eq h.2.2.1.symm) ?_ (fun _ _ _ _ h => nomatch h.1)
  rintro v sh3 sz3 V3 ⟨h3, rfl, rfl, rfl⟩
  cases h3
  refine g_iload dL_law_1482 rfl ?_
  refine g_icmp_eq (tgt := 1489) dL_law_1484 (by decide) (fun _ => ?_) (fun hq => absurd (rfl) hq)
  refine g_iload dL_law_1489 rfl ?_
  refine g_if_ne (tgt := 1506) dL_law_1491 (by decide) (fun bz => ?_) (fun bz => ?_)
  · refine g_jump (tgt := 2250) dL_law_1506 (by decide) ?_
    exact g_widen (cu + 2) (su + 12) (by show cu + 1 + 0 + 0 ≤ cu + 2; omega) (by show su + 6 + 0 + 0 ≤ su + 12; omega) (hk _ _ _ _ _ _ hL2)
  · have q0 := nI_z hb3 bz
    obtain ⟨w, hw2⟩ := hv
    have e2 := hv2 q0
    rw [hw2] at e2
    cases e2
    have e3 : V3 (x + 292) 0 = .long w2.toInt64 := by rw [hf2 _ (by omega)]; exact hv1 w2 q0 hw2
    refine g_aload_n dL_law_1494 rfl ?_
    refine g_iconst (v := nI 0) dL_law_1495 (by decide) ?_
    refine g_laload dL_law_1496 ho1 (vp_in_nI (by decide) (by decide)) (at_nI (by decide) e3) ?_
    refine g_iload dL_law_1497 rfl ?_
    refine g_i2l dL_law_1499 rfl ?_
    refine g_lcmp dL_law_1500 ?_
    rw [lcmp_z rfl]
    refine g_if_eq (tgt := 1506) dL_law_1501 (by decide) (fun _ => ?_) (fun hq => absurd (rfl) hq)
    refine g_jump (tgt := 2250) dL_law_1506 (by decide) ?_
    exact g_widen (cu + 2) (su + 12) (by show cu + 1 + 0 + 0 ≤ cu + 2; omega) (by show su + 6 + 0 + 0 ≤ su + 12; omega) (hk _ _ _ _ _ _ hL2)
theorem b_rolls {c : Int32} : (sp_rolls S c).1 ≤ 3 := by
  unfold sp_rolls
  repeat' split
  all_goals first | exact Nat.zero_le _ | exact Nat.le_of_ble_eq_true rfl
theorem u_rolls {c : Int32} : (sp_rolls S c).2.2 = S := by
  unfold sp_rolls
  repeat' split
  all_goals rfl
set_option maxRecDepth 100000 in
theorem la_rolls (hL : LI E sh sz V x S) (hi : i + 5 ≤ E.2.2.2.2.2.2.1) (hc : cu + 2 ≤ 603072) (hs : su + 12 ≤ 7215210) (hk : LK E tb nm P x i cu su) : G E (ML_law tb nm) P sh sz V cu su 1509 [some (.ref E.2.2.2.2.2.1), some (.ref x), some (.ref (x + 284)), some (.ref (x + 292)), some (.ref (x + 293)), some (.int (nI i)), z6, z7] [] := by
  obtain ⟨hC, hI, ⟨th, hM⟩, hW, ho, hd, hsz, hlen⟩ := id hL
  obtain ⟨q, hq⟩ : ∃ q, q = sp_rolls S (E.2.2.2.2.2.2.2 (i + 1)) := ⟨_, rfl⟩
  have hI2 : InvS q.2.2 := by rw [hq]; rw [u_rolls]; exact hI
  have hb3 : q.1 ≤ 3 := by rw [hq]; exact b_rolls
  have hv : ∃ w, q.2.1 = .int w := by rw [hq]; exact v_rolls
  have hw : MCH E YL_rolls [(0, 9, 12, 22)] [.ref x, .int (E.2.2.2.2.2.2.2 (i + 1)), .ref (x + 292)] sh sz V (WI x (x + 292) sh sz V q) := by rw [hq]; exact w_rolls hC hI hW ho (by omega) (by omega)
  refine g_aload_n dL_law_1509 rfl ?_
  refine g_aload_n dL_law_1510 rfl ?_
  refine g_iload dL_law_1511 rfl ?_
  refine g_iconst (v := nI 1) dL_law_1513 (by decide) ?_
  refine g_iadd dL_law_1514 ?_
  refine g_sld (k := i + 1) dL_law_1515 (nI_add _ _) (by omega) hlen ?_
  refine g_aload_n dL_law_1516 rfl ?_
  refine g_callSH (M := (ML_law tb nm)) (pc := 1517) (Y := YL_rolls) (gIn_SH ml_L_203 wt_L_rolls ini_L wc_L_rolls) yn_L_rolls dL_law_1517 hw rfl rfl (lroom (a := 0) (b := 0) rfl hc hs) (Nat.le_of_ble_eq_true rfl) (fun _ _ _ _ h => h.1.1) (fun _ _ _ _ h => nomatch h.2.2.2) ?_
  rintro v sh1 sz1 V1 ⟨hE1, hC1, hv1, hr⟩
  cases hr
  have hM1 : MS sh1 V1 (x + 284) S th := LI.mod hM hsz hE1 (by omega)
  have ho1 := ((hE1.2.1 (x + 292) (by omega)).1).trans ho
  have hr : MC E YX7_rolls [.ref (x + 284), .int (E.2.2.2.2.2.2.2 (i + 1))] sh1 sz1 V1 (P7 sh1 (x + 284) sz1 V1 q) := by rw [hq]; exact r_rolls hM1 hI.1.1 p7
  refine g_istore dL_law_1520 (Nat.le_of_ble_eq_true rfl) rfl ?_
  show G _ _ _ _ _ _ _ _ _ [_, _, _, _, _, _, _, _] _
  refine g_aload_n dL_law_1522 rfl ?_
  refine g_aload_n dL_law_1523 rfl ?_
  refine g_iload dL_law_1524 rfl ?_
  refine g_iconst (v := nI 1) dL_law_1526 (by decide) ?_
  refine g_iadd dL_law_1527 ?_
  refine g_sld (k := i + 1) dL_law_1528 (nI_add _ _) (by omega) hlen ?_
  refine g_callV (M := (ML_law tb nm)) (pc := 1529) (Y := YX7_rolls) sv_L_205 rfl yn_X7_rolls 9 (by decide) rfl rfl dL_law_1529 hr (hM1.choose_spec.1.1) rfl rfl (lroom (a := 1) (b := 6) rfl hc hs) (Nat.le_of_ble_eq_true rfl) (fun _ _ _ _ h => Nat.le_of_eq h.2.1.symm) ?_ (fun _ _ _ _ h => by obtain ⟨-, -, w, -, -, -, h⟩ := h; exact nomatch h)
  rintro v sh2 sz2 V2 ⟨rfl, rfl, w2, hf2, hv2, hM2, hr2⟩
  cases hr2
  have hL2 : LI E sh2 sz2 V2 x q.2.2 := LI.next hL (Or.inl hE1) hC1 hM2 hf2 hI2
  refine g_istore dL_law_1532 (Nat.le_of_ble_eq_true rfl) rfl ?_
  show G _ _ _ _ _ _ _ _ _ [_, _, _, _, _, _, _, _] _
  refine g_aload_n dL_law_1534 rfl ?_
  refine g_callV (M := (ML_law tb nm)) (pc := 1535) (Y := YX7_thrown) sv_L_136 rfl yn_X7_thrown 9 (by decide) rfl rfl dL_law_1535 (r_thrown (E := E) hM2 (pR_ok (v := some (.int (nI q.1))))) (hM2.choose_spec.1.1) rfl rfl (lroom (a := 1) (b := 6) rfl hc hs) (Nat.le_of_ble_eq_true rfl) (fun _ _ _ _ h => Nat.le_of_eq h.2.2.1.symm) ?_ (fun _ _ _ _ h => nomatch h.1)
  rintro v sh3 sz3 V3 ⟨h3, rfl, rfl, rfl⟩
  cases h3
  refine g_iload dL_law_1538 rfl ?_
  refine g_icmp_eq (tgt := 1545) dL_law_1540 (by decide) (fun _ => ?_) (fun hq => absurd (rfl) hq)
  refine g_iload dL_law_1545 rfl ?_
  refine g_if_ne (tgt := 1562) dL_law_1547 (by decide) (fun bz => ?_) (fun bz => ?_)
  · refine g_jump (tgt := 2250) dL_law_1562 (by decide) ?_
    exact g_widen (cu + 2) (su + 12) (by show cu + 1 + 0 + 0 ≤ cu + 2; omega) (by show su + 6 + 0 + 0 ≤ su + 12; omega) (hk _ _ _ _ _ _ hL2)
  · have q0 := nI_z hb3 bz
    obtain ⟨w, hw2⟩ := hv
    have e2 := hv2 q0
    rw [hw2] at e2
    cases e2
    have e3 : V3 (x + 292) 0 = .long w2.toInt64 := by rw [hf2 _ (by omega)]; exact hv1 w2 q0 hw2
    refine g_aload_n dL_law_1550 rfl ?_
    refine g_iconst (v := nI 0) dL_law_1551 (by decide) ?_
    refine g_laload dL_law_1552 ho1 (vp_in_nI (by decide) (by decide)) (at_nI (by decide) e3) ?_
    refine g_iload dL_law_1553 rfl ?_
    refine g_i2l dL_law_1555 rfl ?_
    refine g_lcmp dL_law_1556 ?_
    rw [lcmp_z rfl]
    refine g_if_eq (tgt := 1562) dL_law_1557 (by decide) (fun _ => ?_) (fun hq => absurd (rfl) hq)
    refine g_jump (tgt := 2250) dL_law_1562 (by decide) ?_
    exact g_widen (cu + 2) (su + 12) (by show cu + 1 + 0 + 0 ≤ cu + 2; omega) (by show su + 6 + 0 + 0 ≤ su + 12; omega) (hk _ _ _ _ _ _ hL2)
theorem b_rollsAgain {c : Int32} : (sp_rolls S c).1 ≤ 3 := by
  unfold sp_rolls
  repeat' split
  all_goals first | exact Nat.zero_le _ | exact Nat.le_of_ble_eq_true rfl
theorem u_rollsAgain {c : Int32} : (sp_rolls S c).2.2 = S := by
  unfold sp_rolls
  repeat' split
  all_goals rfl
set_option maxRecDepth 100000 in
theorem la_rollsAgain (hL : LI E sh sz V x S) (hi : i + 5 ≤ E.2.2.2.2.2.2.1) (hc : cu + 2 ≤ 603072) (hs : su + 12 ≤ 7215210) (hk : LK E tb nm P x i cu su) : G E (ML_law tb nm) P sh sz V cu su 1565 [some (.ref E.2.2.2.2.2.1), some (.ref x), some (.ref (x + 284)), some (.ref (x + 292)), some (.ref (x + 293)), some (.int (nI i)), z6, z7] [] := by
  obtain ⟨hC, hI, ⟨th, hM⟩, hW, ho, hd, hsz, hlen⟩ := id hL
  obtain ⟨q, hq⟩ : ∃ q, q = sp_rolls S (E.2.2.2.2.2.2.2 (i + 1)) := ⟨_, rfl⟩
  have hI2 : InvS q.2.2 := by rw [hq]; rw [u_rollsAgain]; exact hI
  have hb3 : q.1 ≤ 3 := by rw [hq]; exact b_rollsAgain
  have hv : ∃ w, q.2.1 = .int w := by rw [hq]; exact v_rollsAgain
  have hw : MCH E YL_rollsAgain [(0, 9, 12, 22)] [.ref x, .int (E.2.2.2.2.2.2.2 (i + 1)), .ref (x + 292)] sh sz V (WI x (x + 292) sh sz V q) := by rw [hq]; exact w_rollsAgain hC hI hW ho (by omega) (by omega)
  refine g_aload_n dL_law_1565 rfl ?_
  refine g_aload_n dL_law_1566 rfl ?_
  refine g_iload dL_law_1567 rfl ?_
  refine g_iconst (v := nI 1) dL_law_1569 (by decide) ?_
  refine g_iadd dL_law_1570 ?_
  refine g_sld (k := i + 1) dL_law_1571 (nI_add _ _) (by omega) hlen ?_
  refine g_aload_n dL_law_1572 rfl ?_
  refine g_callSH (M := (ML_law tb nm)) (pc := 1573) (Y := YL_rollsAgain) (gIn_SH ml_L_206 wt_L_rollsAgain ini_L wc_L_rollsAgain) yn_L_rollsAgain dL_law_1573 hw rfl rfl (lroom (a := 0) (b := 0) rfl hc hs) (Nat.le_of_ble_eq_true rfl) (fun _ _ _ _ h => h.1.1) (fun _ _ _ _ h => nomatch h.2.2.2) ?_
  rintro v sh1 sz1 V1 ⟨hE1, hC1, hv1, hr⟩
  cases hr
  have hM1 : MS sh1 V1 (x + 284) S th := LI.mod hM hsz hE1 (by omega)
  have ho1 := ((hE1.2.1 (x + 292) (by omega)).1).trans ho
  have hr : MC E YX7_rollsAgain [.ref (x + 284), .int (E.2.2.2.2.2.2.2 (i + 1))] sh1 sz1 V1 (P7 sh1 (x + 284) sz1 V1 q) := by rw [hq]; exact r_rollsAgain hM1 hI.1.1 p7
  refine g_istore dL_law_1576 (Nat.le_of_ble_eq_true rfl) rfl ?_
  show G _ _ _ _ _ _ _ _ _ [_, _, _, _, _, _, _, _] _
  refine g_aload_n dL_law_1578 rfl ?_
  refine g_aload_n dL_law_1579 rfl ?_
  refine g_iload dL_law_1580 rfl ?_
  refine g_iconst (v := nI 1) dL_law_1582 (by decide) ?_
  refine g_iadd dL_law_1583 ?_
  refine g_sld (k := i + 1) dL_law_1584 (nI_add _ _) (by omega) hlen ?_
  refine g_callV (M := (ML_law tb nm)) (pc := 1585) (Y := YX7_rollsAgain) sv_L_208 rfl yn_X7_rollsAgain 9 (by decide) rfl rfl dL_law_1585 hr (hM1.choose_spec.1.1) rfl rfl (lroom (a := 1) (b := 6) rfl hc hs) (Nat.le_of_ble_eq_true rfl) (fun _ _ _ _ h => Nat.le_of_eq h.2.1.symm) ?_ (fun _ _ _ _ h => by obtain ⟨-, -, w, -, -, -, h⟩ := h; exact nomatch h)
  rintro v sh2 sz2 V2 ⟨rfl, rfl, w2, hf2, hv2, hM2, hr2⟩
  cases hr2
  have hL2 : LI E sh2 sz2 V2 x q.2.2 := LI.next hL (Or.inl hE1) hC1 hM2 hf2 hI2
  refine g_istore dL_law_1588 (Nat.le_of_ble_eq_true rfl) rfl ?_
  show G _ _ _ _ _ _ _ _ _ [_, _, _, _, _, _, _, _] _
  refine g_aload_n dL_law_1590 rfl ?_
  refine g_callV (M := (ML_law tb nm)) (pc := 1591) (Y := YX7_thrown) sv_L_136 rfl yn_X7_thrown 9 (by decide) rfl rfl dL_law_1591 (r_thrown (E := E) hM2 (pR_ok (v := some (.int (nI q.1))))) (hM2.choose_spec.1.1) rfl rfl (lroom (a := 1) (b := 6) rfl hc hs) (Nat.le_of_ble_eq_true rfl) (fun _ _ _ _ h => Nat.le_of_eq h.2.2.1.symm) ?_ (fun _ _ _ _ h => nomatch h.1)
  rintro v sh3 sz3 V3 ⟨h3, rfl, rfl, rfl⟩
  cases h3
  refine g_iload dL_law_1594 rfl ?_
  refine g_icmp_eq (tgt := 1601) dL_law_1596 (by decide) (fun _ => ?_) (fun hq => absurd (rfl) hq)
  refine g_iload dL_law_1601 rfl ?_
  refine g_if_ne (tgt := 1618) dL_law_1603 (by decide) (fun bz => ?_) (fun bz => ?_)
  · refine g_jump (tgt := 2250) dL_law_1618 (by decide) ?_
    exact g_widen (cu + 2) (su + 12) (by show cu + 1 + 0 + 0 ≤ cu + 2; omega) (by show su + 6 + 0 + 0 ≤ su + 12; omega) (hk _ _ _ _ _ _ hL2)
  · have q0 := nI_z hb3 bz
    obtain ⟨w, hw2⟩ := hv
    have e2 := hv2 q0
    rw [hw2] at e2
    cases e2
    have e3 : V3 (x + 292) 0 = .long w2.toInt64 := by rw [hf2 _ (by omega)]; exact hv1 w2 q0 hw2
    refine g_aload_n dL_law_1606 rfl ?_
    refine g_iconst (v := nI 0) dL_law_1607 (by decide) ?_
    refine g_laload dL_law_1608 ho1 (vp_in_nI (by decide) (by decide)) (at_nI (by decide) e3) ?_
    refine g_iload dL_law_1609 rfl ?_
    refine g_i2l dL_law_1611 rfl ?_
    refine g_lcmp dL_law_1612 ?_
    rw [lcmp_z rfl]
    refine g_if_eq (tgt := 1618) dL_law_1613 (by decide) (fun _ => ?_) (fun hq => absurd (rfl) hq)
    refine g_jump (tgt := 2250) dL_law_1618 (by decide) ?_
    exact g_widen (cu + 2) (su + 12) (by show cu + 1 + 0 + 0 ≤ cu + 2; omega) (by show su + 6 + 0 + 0 ≤ su + 12; omega) (hk _ _ _ _ _ _ hL2)
theorem b_iceIn {a d : Int32} : (sp_iceIn S a d).1 ≤ 3 := by
  unfold sp_iceIn
  repeat' split
  all_goals first | exact Nat.zero_le _ | exact Nat.le_of_ble_eq_true rfl
theorem u_iceIn {a d : Int32} : (sp_iceIn S a d).2.2 = S := by
  unfold sp_iceIn
  repeat' split
  all_goals rfl
set_option maxRecDepth 100000 in
theorem la_iceIn (hL : LI E sh sz V x S) (hi : i + 5 ≤ E.2.2.2.2.2.2.1) (hc : cu + 2 ≤ 603072) (hs : su + 12 ≤ 7215210) (hk : LK E tb nm P x i cu su) : G E (ML_law tb nm) P sh sz V cu su 1621 [some (.ref E.2.2.2.2.2.1), some (.ref x), some (.ref (x + 284)), some (.ref (x + 292)), some (.ref (x + 293)), some (.int (nI i)), z6, z7] [] := by
  obtain ⟨hC, hI, ⟨th, hM⟩, hW, ho, hd, hsz, hlen⟩ := id hL
  obtain ⟨q, hq⟩ : ∃ q, q = sp_iceIn S (E.2.2.2.2.2.2.2 (i + 1)) (E.2.2.2.2.2.2.2 (i + 2)) := ⟨_, rfl⟩
  have hI2 : InvS q.2.2 := by rw [hq]; rw [u_iceIn]; exact hI
  have hb3 : q.1 ≤ 3 := by rw [hq]; exact b_iceIn
  have hv : ∃ w, q.2.1 = .int w := by rw [hq]; exact v_iceIn
  have hw : MCH E YL_iceIn [(0, 10, 13, 22), (0, 10, 17, 13)] [.ref x, .int (E.2.2.2.2.2.2.2 (i + 1)), .int (E.2.2.2.2.2.2.2 (i + 2)), .ref (x + 292)] sh sz V (WI x (x + 292) sh sz V q) := by rw [hq]; exact w_iceIn hC hI hW ho (by omega) (by omega)
  refine g_aload_n dL_law_1621 rfl ?_
  refine g_aload_n dL_law_1622 rfl ?_
  refine g_iload dL_law_1623 rfl ?_
  refine g_iconst (v := nI 1) dL_law_1625 (by decide) ?_
  refine g_iadd dL_law_1626 ?_
  refine g_sld (k := i + 1) dL_law_1627 (nI_add _ _) (by omega) hlen ?_
  refine g_aload_n dL_law_1628 rfl ?_
  refine g_iload dL_law_1629 rfl ?_
  refine g_iconst (v := nI 2) dL_law_1631 (by decide) ?_
  refine g_iadd dL_law_1632 ?_
  refine g_sld (k := i + 2) dL_law_1633 (nI_add _ _) (by omega) hlen ?_
  refine g_aload_n dL_law_1634 rfl ?_
  refine g_callSH (M := (ML_law tb nm)) (pc := 1635) (Y := YL_iceIn) (gIn_SH ml_L_209 wt_L_iceIn ini_L wc_L_iceIn) yn_L_iceIn dL_law_1635 hw rfl rfl (lroom (a := 0) (b := 0) rfl hc hs) (Nat.le_of_ble_eq_true rfl) (fun _ _ _ _ h => h.1.1) (fun _ _ _ _ h => nomatch h.2.2.2) ?_
  rintro v sh1 sz1 V1 ⟨hE1, hC1, hv1, hr⟩
  cases hr
  have hM1 : MS sh1 V1 (x + 284) S th := LI.mod hM hsz hE1 (by omega)
  have ho1 := ((hE1.2.1 (x + 292) (by omega)).1).trans ho
  have hr : MC E YX7_iceIn [.ref (x + 284), .int (E.2.2.2.2.2.2.2 (i + 1)), .int (E.2.2.2.2.2.2.2 (i + 2))] sh1 sz1 V1 (P7 sh1 (x + 284) sz1 V1 q) := by rw [hq]; exact r_iceIn hM1 hI.1.1 p7
  refine g_istore dL_law_1638 (Nat.le_of_ble_eq_true rfl) rfl ?_
  show G _ _ _ _ _ _ _ _ _ [_, _, _, _, _, _, _, _] _
  refine g_aload_n dL_law_1640 rfl ?_
  refine g_aload_n dL_law_1641 rfl ?_
  refine g_iload dL_law_1642 rfl ?_
  refine g_iconst (v := nI 1) dL_law_1644 (by decide) ?_
  refine g_iadd dL_law_1645 ?_
  refine g_sld (k := i + 1) dL_law_1646 (nI_add _ _) (by omega) hlen ?_
  refine g_aload_n dL_law_1647 rfl ?_
  refine g_iload dL_law_1648 rfl ?_
  refine g_iconst (v := nI 2) dL_law_1650 (by decide) ?_
  refine g_iadd dL_law_1651 ?_
  refine g_sld (k := i + 2) dL_law_1652 (nI_add _ _) (by omega) hlen ?_
  refine g_callV (M := (ML_law tb nm)) (pc := 1653) (Y := YX7_iceIn) sv_L_211 rfl yn_X7_iceIn 9 (by decide) rfl rfl dL_law_1653 hr (hM1.choose_spec.1.1) rfl rfl (lroom (a := 1) (b := 6) rfl hc hs) (Nat.le_of_ble_eq_true rfl) (fun _ _ _ _ h => Nat.le_of_eq h.2.1.symm) ?_ (fun _ _ _ _ h => by obtain ⟨-, -, w, -, -, -, h⟩ := h; exact nomatch h)
  rintro v sh2 sz2 V2 ⟨rfl, rfl, w2, hf2, hv2, hM2, hr2⟩
  cases hr2
  have hL2 : LI E sh2 sz2 V2 x q.2.2 := LI.next hL (Or.inl hE1) hC1 hM2 hf2 hI2
  refine g_istore dL_law_1656 (Nat.le_of_ble_eq_true rfl) rfl ?_
  show G _ _ _ _ _ _ _ _ _ [_, _, _, _, _, _, _, _] _
  refine g_aload_n dL_law_1658 rfl ?_
  refine g_callV (M := (ML_law tb nm)) (pc := 1659) (Y := YX7_thrown) sv_L_136 rfl yn_X7_thrown 9 (by decide) rfl rfl dL_law_1659 (r_thrown (E := E) hM2 (pR_ok (v := some (.int (nI q.1))))) (hM2.choose_spec.1.1) rfl rfl (lroom (a := 1) (b := 6) rfl hc hs) (Nat.le_of_ble_eq_true rfl) (fun _ _ _ _ h => Nat.le_of_eq h.2.2.1.symm) ?_ (fun _ _ _ _ h => nomatch h.1)
  rintro v sh3 sz3 V3 ⟨h3, rfl, rfl, rfl⟩
  cases h3
  refine g_iload dL_law_1662 rfl ?_
  refine g_icmp_eq (tgt := 1669) dL_law_1664 (by decide) (fun _ => ?_) (fun hq => absurd (rfl) hq)
  refine g_iload dL_law_1669 rfl ?_
  refine g_if_ne (tgt := 1686) dL_law_1671 (by decide) (fun bz => ?_) (fun bz => ?_)
  · refine g_jump (tgt := 2250) dL_law_1686 (by decide) ?_
    exact g_widen (cu + 2) (su + 12) (by show cu + 1 + 0 + 0 ≤ cu + 2; omega) (by show su + 6 + 0 + 0 ≤ su + 12; omega) (hk _ _ _ _ _ _ hL2)
  · have q0 := nI_z hb3 bz
    obtain ⟨w, hw2⟩ := hv
    have e2 := hv2 q0
    rw [hw2] at e2
    cases e2
    have e3 : V3 (x + 292) 0 = .long w2.toInt64 := by rw [hf2 _ (by omega)]; exact hv1 w2 q0 hw2
    refine g_aload_n dL_law_1674 rfl ?_
    refine g_iconst (v := nI 0) dL_law_1675 (by decide) ?_
    refine g_laload dL_law_1676 ho1 (vp_in_nI (by decide) (by decide)) (at_nI (by decide) e3) ?_
    refine g_iload dL_law_1677 rfl ?_
    refine g_i2l dL_law_1679 rfl ?_
    refine g_lcmp dL_law_1680 ?_
    rw [lcmp_z rfl]
    refine g_if_eq (tgt := 1686) dL_law_1681 (by decide) (fun _ => ?_) (fun hq => absurd (rfl) hq)
    refine g_jump (tgt := 2250) dL_law_1686 (by decide) ?_
    exact g_widen (cu + 2) (su + 12) (by show cu + 1 + 0 + 0 ≤ cu + 2; omega) (by show su + 6 + 0 + 0 ≤ su + 12; omega) (hk _ _ _ _ _ _ hL2)
theorem b_bearsIn {a t : Int32} : (sp_bearsIn S a t).1 ≤ 3 := by
  unfold sp_bearsIn
  repeat' split
  all_goals first | exact Nat.zero_le _ | exact Nat.le_of_ble_eq_true rfl
theorem u_bearsIn {a t : Int32} : (sp_bearsIn S a t).2.2 = S := by
  unfold sp_bearsIn
  repeat' split
  all_goals rfl
set_option maxRecDepth 100000 in
theorem la_bearsIn (hL : LI E sh sz V x S) (hi : i + 5 ≤ E.2.2.2.2.2.2.1) (hc : cu + 2 ≤ 603072) (hs : su + 12 ≤ 7215210) (hk : LK E tb nm P x i cu su) : G E (ML_law tb nm) P sh sz V cu su 1689 [some (.ref E.2.2.2.2.2.1), some (.ref x), some (.ref (x + 284)), some (.ref (x + 292)), some (.ref (x + 293)), some (.int (nI i)), z6, z7] [] := by
  obtain ⟨hC, hI, ⟨th, hM⟩, hW, ho, hd, hsz, hlen⟩ := id hL
  obtain ⟨q, hq⟩ : ∃ q, q = sp_bearsIn S (E.2.2.2.2.2.2.2 (i + 1)) (E.2.2.2.2.2.2.2 (i + 2)) := ⟨_, rfl⟩
  have hI2 : InvS q.2.2 := by rw [hq]; rw [u_bearsIn]; exact hI
  have hb3 : q.1 ≤ 3 := by rw [hq]; exact b_bearsIn
  have hv : ∃ w, q.2.1 = .int w := by rw [hq]; exact v_bearsIn
  have hw : MCH E YL_bearsIn [(0, 10, 13, 22), (0, 10, 17, 13), (0, 10, 21, 27)] [.ref x, .int (E.2.2.2.2.2.2.2 (i + 1)), .int (E.2.2.2.2.2.2.2 (i + 2)), .ref (x + 292)] sh sz V (WI x (x + 292) sh sz V q) := by rw [hq]; exact w_bearsIn hC hI hW ho (by omega) (by omega)
  refine g_aload_n dL_law_1689 rfl ?_
  refine g_aload_n dL_law_1690 rfl ?_
  refine g_iload dL_law_1691 rfl ?_
  refine g_iconst (v := nI 1) dL_law_1693 (by decide) ?_
  refine g_iadd dL_law_1694 ?_
  refine g_sld (k := i + 1) dL_law_1695 (nI_add _ _) (by omega) hlen ?_
  refine g_aload_n dL_law_1696 rfl ?_
  refine g_iload dL_law_1697 rfl ?_
  refine g_iconst (v := nI 2) dL_law_1699 (by decide) ?_
  refine g_iadd dL_law_1700 ?_
  refine g_sld (k := i + 2) dL_law_1701 (nI_add _ _) (by omega) hlen ?_
  refine g_aload_n dL_law_1702 rfl ?_
  refine g_callSH (M := (ML_law tb nm)) (pc := 1703) (Y := YL_bearsIn) (gIn_SH ml_L_212 wt_L_bearsIn ini_L wc_L_bearsIn) yn_L_bearsIn dL_law_1703 hw rfl rfl (lroom (a := 0) (b := 0) rfl hc hs) (Nat.le_of_ble_eq_true rfl) (fun _ _ _ _ h => h.1.1) (fun _ _ _ _ h => nomatch h.2.2.2) ?_
  rintro v sh1 sz1 V1 ⟨hE1, hC1, hv1, hr⟩
  cases hr
  have hM1 : MS sh1 V1 (x + 284) S th := LI.mod hM hsz hE1 (by omega)
  have ho1 := ((hE1.2.1 (x + 292) (by omega)).1).trans ho
  have hr : MC E YX7_bearsIn [.ref (x + 284), .int (E.2.2.2.2.2.2.2 (i + 1)), .int (E.2.2.2.2.2.2.2 (i + 2))] sh1 sz1 V1 (P7 sh1 (x + 284) sz1 V1 q) := by rw [hq]; exact r_bearsIn hM1 hI.1.1 p7
  refine g_istore dL_law_1706 (Nat.le_of_ble_eq_true rfl) rfl ?_
  show G _ _ _ _ _ _ _ _ _ [_, _, _, _, _, _, _, _] _
  refine g_aload_n dL_law_1708 rfl ?_
  refine g_aload_n dL_law_1709 rfl ?_
  refine g_iload dL_law_1710 rfl ?_
  refine g_iconst (v := nI 1) dL_law_1712 (by decide) ?_
  refine g_iadd dL_law_1713 ?_
  refine g_sld (k := i + 1) dL_law_1714 (nI_add _ _) (by omega) hlen ?_
  refine g_aload_n dL_law_1715 rfl ?_
  refine g_iload dL_law_1716 rfl ?_
  refine g_iconst (v := nI 2) dL_law_1718 (by decide) ?_
  refine g_iadd dL_law_1719 ?_
  refine g_sld (k := i + 2) dL_law_1720 (nI_add _ _) (by omega) hlen ?_
  refine g_callV (M := (ML_law tb nm)) (pc := 1721) (Y := YX7_bearsIn) sv_L_214 rfl yn_X7_bearsIn 9 (by decide) rfl rfl dL_law_1721 hr (hM1.choose_spec.1.1) rfl rfl (lroom (a := 1) (b := 6) rfl hc hs) (Nat.le_of_ble_eq_true rfl) (fun _ _ _ _ h => Nat.le_of_eq h.2.1.symm) ?_ (fun _ _ _ _ h => by obtain ⟨-, -, w, -, -, -, h⟩ := h; exact nomatch h)
  rintro v sh2 sz2 V2 ⟨rfl, rfl, w2, hf2, hv2, hM2, hr2⟩
  cases hr2
  have hL2 : LI E sh2 sz2 V2 x q.2.2 := LI.next hL (Or.inl hE1) hC1 hM2 hf2 hI2
  refine g_istore dL_law_1724 (Nat.le_of_ble_eq_true rfl) rfl ?_
  show G _ _ _ _ _ _ _ _ _ [_, _, _, _, _, _, _, _] _
  refine g_aload_n dL_law_1726 rfl ?_
  refine g_callV (M := (ML_law tb nm)) (pc := 1727) (Y := YX7_thrown) sv_L_136 rfl yn_X7_thrown 9 (by decide) rfl rfl dL_law_1727 (r_thrown (E := E) hM2 (pR_ok (v := some (.int (nI q.1))))) (hM2.choose_spec.1.1) rfl rfl (lroom (a := 1) (b := 6) rfl hc hs) (Nat.le_of_ble_eq_true rfl) (fun _ _ _ _ h => Nat.le_of_eq h.2.2.1.symm) ?_ (fun _ _ _ _ h => nomatch h.1)
  rintro v sh3 sz3 V3 ⟨h3, rfl, rfl, rfl⟩
  cases h3
  refine g_iload dL_law_1730 rfl ?_
  refine g_icmp_eq (tgt := 1737) dL_law_1732 (by decide) (fun _ => ?_) (fun hq => absurd (rfl) hq)
  refine g_iload dL_law_1737 rfl ?_
  refine g_if_ne (tgt := 1754) dL_law_1739 (by decide) (fun bz => ?_) (fun bz => ?_)
  · refine g_jump (tgt := 2250) dL_law_1754 (by decide) ?_
    exact g_widen (cu + 2) (su + 12) (by show cu + 1 + 0 + 0 ≤ cu + 2; omega) (by show su + 6 + 0 + 0 ≤ su + 12; omega) (hk _ _ _ _ _ _ hL2)
  · have q0 := nI_z hb3 bz
    obtain ⟨w, hw2⟩ := hv
    have e2 := hv2 q0
    rw [hw2] at e2
    cases e2
    have e3 : V3 (x + 292) 0 = .long w2.toInt64 := by rw [hf2 _ (by omega)]; exact hv1 w2 q0 hw2
    refine g_aload_n dL_law_1742 rfl ?_
    refine g_iconst (v := nI 0) dL_law_1743 (by decide) ?_
    refine g_laload dL_law_1744 ho1 (vp_in_nI (by decide) (by decide)) (at_nI (by decide) e3) ?_
    refine g_iload dL_law_1745 rfl ?_
    refine g_i2l dL_law_1747 rfl ?_
    refine g_lcmp dL_law_1748 ?_
    rw [lcmp_z rfl]
    refine g_if_eq (tgt := 1754) dL_law_1749 (by decide) (fun _ => ?_) (fun hq => absurd (rfl) hq)
    refine g_jump (tgt := 2250) dL_law_1754 (by decide) ?_
    exact g_widen (cu + 2) (su + 12) (by show cu + 1 + 0 + 0 ≤ cu + 2; omega) (by show su + 6 + 0 + 0 ≤ su + 12; omega) (hk _ _ _ _ _ _ hL2)
theorem b_pass {d : Int32} : (sp_pass S d).1 ≤ 3 := by
  unfold sp_pass
  repeat' split
  all_goals first | exact Nat.zero_le _ | exact Nat.le_of_ble_eq_true rfl
set_option maxRecDepth 100000 in
theorem la_pass (hL : LI E sh sz V x S) (hi : i + 5 ≤ E.2.2.2.2.2.2.1) (hc : cu + 2 ≤ 603072) (hs : su + 12 ≤ 7215210) (hk : LK E tb nm P x i cu su) : G E (ML_law tb nm) P sh sz V cu su 1757 [some (.ref E.2.2.2.2.2.1), some (.ref x), some (.ref (x + 284)), some (.ref (x + 292)), some (.ref (x + 293)), some (.int (nI i)), z6, z7] [] := by
  obtain ⟨hC, hI, ⟨th, hM⟩, hW, ho, hd, hsz, hlen⟩ := id hL
  obtain ⟨q, hq⟩ : ∃ q, q = sp_pass S (E.2.2.2.2.2.2.2 (i + 1)) := ⟨_, rfl⟩
  have hI2 : InvS q.2.2 := by rw [hq]; exact s_pass hI
  have hb3 : q.1 ≤ 3 := by rw [hq]; exact b_pass
  have hv : ∃ w, q.2.1 = .int w := by rw [hq]; exact v_pass
  have hw : MCH E YL_pass [(0, 9, 12, 13)] [.ref x, .int (E.2.2.2.2.2.2.2 (i + 1)), .ref (x + 292)] sh sz V (WI x (x + 292) sh sz V q) := by rw [hq]; exact w_pass hC hI hW ho (by omega) (by omega)
  refine g_aload_n dL_law_1757 rfl ?_
  refine g_aload_n dL_law_1758 rfl ?_
  refine g_iload dL_law_1759 rfl ?_
  refine g_iconst (v := nI 1) dL_law_1761 (by decide) ?_
  refine g_iadd dL_law_1762 ?_
  refine g_sld (k := i + 1) dL_law_1763 (nI_add _ _) (by omega) hlen ?_
  refine g_aload_n dL_law_1764 rfl ?_
  refine g_callSH (M := (ML_law tb nm)) (pc := 1765) (Y := YL_pass) (gIn_SH ml_L_215 wt_L_pass ini_L wc_L_pass) yn_L_pass dL_law_1765 hw rfl rfl (lroom (a := 0) (b := 0) rfl hc hs) (Nat.le_of_ble_eq_true rfl) (fun _ _ _ _ h => h.1.1) (fun _ _ _ _ h => nomatch h.2.2.2) ?_
  rintro v sh1 sz1 V1 ⟨hE1, hC1, hv1, hr⟩
  cases hr
  have hM1 : MS sh1 V1 (x + 284) S th := LI.mod hM hsz hE1 (by omega)
  have ho1 := ((hE1.2.1 (x + 292) (by omega)).1).trans ho
  have hr : MC E YX7_pass [.ref (x + 284), .int (E.2.2.2.2.2.2.2 (i + 1))] sh1 sz1 V1 (P7 sh1 (x + 284) sz1 V1 q) := by rw [hq]; exact r_pass hM1 hI.1.1 p7
  refine g_istore dL_law_1768 (Nat.le_of_ble_eq_true rfl) rfl ?_
  show G _ _ _ _ _ _ _ _ _ [_, _, _, _, _, _, _, _] _
  refine g_aload_n dL_law_1770 rfl ?_
  refine g_aload_n dL_law_1771 rfl ?_
  refine g_iload dL_law_1772 rfl ?_
  refine g_iconst (v := nI 1) dL_law_1774 (by decide) ?_
  refine g_iadd dL_law_1775 ?_
  refine g_sld (k := i + 1) dL_law_1776 (nI_add _ _) (by omega) hlen ?_
  refine g_callV (M := (ML_law tb nm)) (pc := 1777) (Y := YX7_pass) sv_L_217 rfl yn_X7_pass 9 (by decide) rfl rfl dL_law_1777 hr (hM1.choose_spec.1.1) rfl rfl (lroom (a := 1) (b := 6) rfl hc hs) (Nat.le_of_ble_eq_true rfl) (fun _ _ _ _ h => Nat.le_of_eq h.2.1.symm) ?_ (fun _ _ _ _ h => by obtain ⟨-, -, w, -, -, -, h⟩ := h; exact nomatch h)
  rintro v sh2 sz2 V2 ⟨rfl, rfl, w2, hf2, hv2, hM2, hr2⟩
  cases hr2
  have hL2 : LI E sh2 sz2 V2 x q.2.2 := LI.next hL (Or.inl hE1) hC1 hM2 hf2 hI2
  refine g_istore dL_law_1780 (Nat.le_of_ble_eq_true rfl) rfl ?_
  show G _ _ _ _ _ _ _ _ _ [_, _, _, _, _, _, _, _] _
  refine g_aload_n dL_law_1782 rfl ?_
  refine g_callV (M := (ML_law tb nm)) (pc := 1783) (Y := YX7_thrown) sv_L_136 rfl yn_X7_thrown 9 (by decide) rfl rfl dL_law_1783 (r_thrown (E := E) hM2 (pR_ok (v := some (.int (nI q.1))))) (hM2.choose_spec.1.1) rfl rfl (lroom (a := 1) (b := 6) rfl hc hs) (Nat.le_of_ble_eq_true rfl) (fun _ _ _ _ h => Nat.le_of_eq h.2.2.1.symm) ?_ (fun _ _ _ _ h => nomatch h.1)
  rintro v sh3 sz3 V3 ⟨h3, rfl, rfl, rfl⟩
  cases h3
  refine g_iload dL_law_1786 rfl ?_
  refine g_icmp_eq (tgt := 1793) dL_law_1788 (by decide) (fun _ => ?_) (fun hq => absurd (rfl) hq)
  refine g_iload dL_law_1793 rfl ?_
  refine g_if_ne (tgt := 1810) dL_law_1795 (by decide) (fun bz => ?_) (fun bz => ?_)
  · refine g_jump (tgt := 2250) dL_law_1810 (by decide) ?_
    exact g_widen (cu + 2) (su + 12) (by show cu + 1 + 0 + 0 ≤ cu + 2; omega) (by show su + 6 + 0 + 0 ≤ su + 12; omega) (hk _ _ _ _ _ _ hL2)
  · have q0 := nI_z hb3 bz
    obtain ⟨w, hw2⟩ := hv
    have e2 := hv2 q0
    rw [hw2] at e2
    cases e2
    have e3 : V3 (x + 292) 0 = .long w2.toInt64 := by rw [hf2 _ (by omega)]; exact hv1 w2 q0 hw2
    refine g_aload_n dL_law_1798 rfl ?_
    refine g_iconst (v := nI 0) dL_law_1799 (by decide) ?_
    refine g_laload dL_law_1800 ho1 (vp_in_nI (by decide) (by decide)) (at_nI (by decide) e3) ?_
    refine g_iload dL_law_1801 rfl ?_
    refine g_i2l dL_law_1803 rfl ?_
    refine g_lcmp dL_law_1804 ?_
    rw [lcmp_z rfl]
    refine g_if_eq (tgt := 1810) dL_law_1805 (by decide) (fun _ => ?_) (fun hq => absurd (rfl) hq)
    refine g_jump (tgt := 2250) dL_law_1810 (by decide) ?_
    exact g_widen (cu + 2) (su + 12) (by show cu + 1 + 0 + 0 ≤ cu + 2; omega) (by show su + 6 + 0 + 0 ≤ su + 12; omega) (hk _ _ _ _ _ _ hL2)
theorem b_append {c : Int32} : (sp_append S c).1 ≤ 3 := by
  unfold sp_append
  repeat' split
  all_goals first | exact Nat.zero_le _ | exact Nat.le_of_ble_eq_true rfl
set_option maxRecDepth 100000 in
theorem la_append (hL : LI E sh sz V x S) (hi : i + 5 ≤ E.2.2.2.2.2.2.1) (hc : cu + 2 ≤ 603072) (hs : su + 12 ≤ 7215210) (hk : LK E tb nm P x i cu su) : G E (ML_law tb nm) P sh sz V cu su 1813 [some (.ref E.2.2.2.2.2.1), some (.ref x), some (.ref (x + 284)), some (.ref (x + 292)), some (.ref (x + 293)), some (.int (nI i)), z6, z7] [] := by
  obtain ⟨hC, hI, ⟨th, hM⟩, hW, ho, hd, hsz, hlen⟩ := id hL
  obtain ⟨q, hq⟩ : ∃ q, q = sp_append S (((E.2.2.2.2.2.2.2 (i + 1)).toUInt32 % 65536).toInt32) := ⟨_, rfl⟩
  have hI2 : InvS q.2.2 := by rw [hq]; exact s_append hI
  have hb3 : q.1 ≤ 3 := by rw [hq]; exact b_append
  have hv : ∃ w, q.2.1 = .int w := by rw [hq]; exact v_append
  have hw : MCH E YL_append [(0, 9, 12, 101)] [.ref x, .int (((E.2.2.2.2.2.2.2 (i + 1)).toUInt32 % 65536).toInt32), .ref (x + 292)] sh sz V (WI x (x + 292) sh sz V q) := by rw [hq]; exact w_append (char_nar _) hC hI hW ho (by omega) (by omega)
  refine g_aload_n dL_law_1813 rfl ?_
  refine g_aload_n dL_law_1814 rfl ?_
  refine g_iload dL_law_1815 rfl ?_
  refine g_iconst (v := nI 1) dL_law_1817 (by decide) ?_
  refine g_iadd dL_law_1818 ?_
  refine g_sld (k := i + 1) dL_law_1819 (nI_add _ _) (by omega) hlen ?_
  refine g_i2c dL_law_1820 rfl ?_
  refine g_aload_n dL_law_1821 rfl ?_
  refine g_callSH (M := (ML_law tb nm)) (pc := 1822) (Y := YL_append) (gIn_SH ml_L_218 wt_L_append ini_L wc_L_append) yn_L_append dL_law_1822 hw rfl rfl (lroom (a := 0) (b := 0) rfl hc hs) (Nat.le_of_ble_eq_true rfl) (fun _ _ _ _ h => h.1.1) (fun _ _ _ _ h => nomatch h.2.2.2) ?_
  rintro v sh1 sz1 V1 ⟨hE1, hC1, hv1, hr⟩
  cases hr
  have hM1 : MS sh1 V1 (x + 284) S th := LI.mod hM hsz hE1 (by omega)
  have ho1 := ((hE1.2.1 (x + 292) (by omega)).1).trans ho
  have hr : MC E YX7_append [.ref (x + 284), .int (((E.2.2.2.2.2.2.2 (i + 1)).toUInt32 % 65536).toInt32)] sh1 sz1 V1 (P7 sh1 (x + 284) sz1 V1 q) := by rw [hq]; exact r_append (char_nar _) hM1 p7
  refine g_istore dL_law_1825 (Nat.le_of_ble_eq_true rfl) rfl ?_
  show G _ _ _ _ _ _ _ _ _ [_, _, _, _, _, _, _, _] _
  refine g_aload_n dL_law_1827 rfl ?_
  refine g_aload_n dL_law_1828 rfl ?_
  refine g_iload dL_law_1829 rfl ?_
  refine g_iconst (v := nI 1) dL_law_1831 (by decide) ?_
  refine g_iadd dL_law_1832 ?_
  refine g_sld (k := i + 1) dL_law_1833 (nI_add _ _) (by omega) hlen ?_
  refine g_i2c dL_law_1834 rfl ?_
  refine g_callV (M := (ML_law tb nm)) (pc := 1835) (Y := YX7_append) sv_L_221 rfl yn_X7_append 9 (by decide) rfl rfl dL_law_1835 hr (hM1.choose_spec.1.1) rfl rfl (lroom (a := 1) (b := 6) rfl hc hs) (Nat.le_of_ble_eq_true rfl) (fun _ _ _ _ h => Nat.le_of_eq h.2.1.symm) ?_ (fun _ _ _ _ h => by obtain ⟨-, -, w, -, -, -, h⟩ := h; exact nomatch h)
  rintro v sh2 sz2 V2 ⟨rfl, rfl, w2, hf2, hv2, hM2, hr2⟩
  cases hr2
  have hL2 : LI E sh2 sz2 V2 x q.2.2 := LI.next hL (Or.inl hE1) hC1 hM2 hf2 hI2
  refine g_istore dL_law_1838 (Nat.le_of_ble_eq_true rfl) rfl ?_
  show G _ _ _ _ _ _ _ _ _ [_, _, _, _, _, _, _, _] _
  refine g_aload_n dL_law_1840 rfl ?_
  refine g_callV (M := (ML_law tb nm)) (pc := 1841) (Y := YX7_thrown) sv_L_136 rfl yn_X7_thrown 9 (by decide) rfl rfl dL_law_1841 (r_thrown (E := E) hM2 (pR_ok (v := some (.int (nI q.1))))) (hM2.choose_spec.1.1) rfl rfl (lroom (a := 1) (b := 6) rfl hc hs) (Nat.le_of_ble_eq_true rfl) (fun _ _ _ _ h => Nat.le_of_eq h.2.2.1.symm) ?_ (fun _ _ _ _ h => nomatch h.1)
  rintro v sh3 sz3 V3 ⟨h3, rfl, rfl, rfl⟩
  cases h3
  refine g_iload dL_law_1844 rfl ?_
  refine g_icmp_eq (tgt := 1851) dL_law_1846 (by decide) (fun _ => ?_) (fun hq => absurd (rfl) hq)
  refine g_iload dL_law_1851 rfl ?_
  refine g_if_ne (tgt := 1868) dL_law_1853 (by decide) (fun bz => ?_) (fun bz => ?_)
  · refine g_jump (tgt := 2250) dL_law_1868 (by decide) ?_
    exact g_widen (cu + 2) (su + 12) (by show cu + 1 + 0 + 0 ≤ cu + 2; omega) (by show su + 6 + 0 + 0 ≤ su + 12; omega) (hk _ _ _ _ _ _ hL2)
  · have q0 := nI_z hb3 bz
    obtain ⟨w, hw2⟩ := hv
    have e2 := hv2 q0
    rw [hw2] at e2
    cases e2
    have e3 : V3 (x + 292) 0 = .long w2.toInt64 := by rw [hf2 _ (by omega)]; exact hv1 w2 q0 hw2
    refine g_aload_n dL_law_1856 rfl ?_
    refine g_iconst (v := nI 0) dL_law_1857 (by decide) ?_
    refine g_laload dL_law_1858 ho1 (vp_in_nI (by decide) (by decide)) (at_nI (by decide) e3) ?_
    refine g_iload dL_law_1859 rfl ?_
    refine g_i2l dL_law_1861 rfl ?_
    refine g_lcmp dL_law_1862 ?_
    rw [lcmp_z rfl]
    refine g_if_eq (tgt := 1868) dL_law_1863 (by decide) (fun _ => ?_) (fun hq => absurd (rfl) hq)
    refine g_jump (tgt := 2250) dL_law_1868 (by decide) ?_
    exact g_widen (cu + 2) (su + 12) (by show cu + 1 + 0 + 0 ≤ cu + 2; omega) (by show su + 6 + 0 + 0 ≤ su + 12; omega) (hk _ _ _ _ _ _ hL2)
theorem b_read  : (sp_read S).1 ≤ 3 := by
  unfold sp_read
  repeat' split
  all_goals first | exact Nat.zero_le _ | exact Nat.le_of_ble_eq_true rfl
set_option maxRecDepth 100000 in
theorem la_read (hL : LI E sh sz V x S) (hi : i + 5 ≤ E.2.2.2.2.2.2.1) (hc : cu + 2 ≤ 603072) (hs : su + 12 ≤ 7215210) (hk : LK E tb nm P x i cu su) : G E (ML_law tb nm) P sh sz V cu su 1871 [some (.ref E.2.2.2.2.2.1), some (.ref x), some (.ref (x + 284)), some (.ref (x + 292)), some (.ref (x + 293)), some (.int (nI i)), z6, z7] [] := by
  obtain ⟨hC, hI, ⟨th, hM⟩, hW, ho, hd, hsz, hlen⟩ := id hL
  obtain ⟨q, hq⟩ : ∃ q, q = sp_read S := ⟨_, rfl⟩
  have hI2 : InvS q.2.2 := by rw [hq]; exact s_read hI
  have hb3 : q.1 ≤ 3 := by rw [hq]; exact b_read
  have hv : ∃ w, q.2.1 = .int w := by rw [hq]; exact v_read
  have hw : MCH E YL_read [(0, 8, 11, 13), (0, 8, 14, 47)] [.ref x, .ref (x + 292)] sh sz V (WI x (x + 292) sh sz V q) := by rw [hq]; exact w_read hC hI hW ho (by omega) (by omega)
  refine g_aload_n dL_law_1871 rfl ?_
  refine g_aload_n dL_law_1872 rfl ?_
  refine g_callSH (M := (ML_law tb nm)) (pc := 1873) (Y := YL_read) (gIn_SH ml_L_222 wt_L_read ini_L wc_L_read) yn_L_read dL_law_1873 hw rfl rfl (lroom (a := 0) (b := 0) rfl hc hs) (Nat.le_of_ble_eq_true rfl) (fun _ _ _ _ h => h.1.1) (fun _ _ _ _ h => nomatch h.2.2.2) ?_
  rintro v sh1 sz1 V1 ⟨hE1, hC1, hv1, hr⟩
  cases hr
  have hM1 : MS sh1 V1 (x + 284) S th := LI.mod hM hsz hE1 (by omega)
  have ho1 := ((hE1.2.1 (x + 292) (by omega)).1).trans ho
  have hr : MC E YX7_read [.ref (x + 284)] sh1 sz1 V1 (P7 sh1 (x + 284) sz1 V1 q) := by rw [hq]; exact r_read hM1 hI.1.1 p7
  refine g_istore dL_law_1876 (Nat.le_of_ble_eq_true rfl) rfl ?_
  show G _ _ _ _ _ _ _ _ _ [_, _, _, _, _, _, _, _] _
  refine g_aload_n dL_law_1878 rfl ?_
  refine g_callV (M := (ML_law tb nm)) (pc := 1879) (Y := YX7_read) sv_L_225 rfl yn_X7_read 9 (by decide) rfl rfl dL_law_1879 hr (hM1.choose_spec.1.1) rfl rfl (lroom (a := 1) (b := 6) rfl hc hs) (Nat.le_of_ble_eq_true rfl) (fun _ _ _ _ h => Nat.le_of_eq h.2.1.symm) ?_ (fun _ _ _ _ h => by obtain ⟨-, -, w, -, -, -, h⟩ := h; exact nomatch h)
  rintro v sh2 sz2 V2 ⟨rfl, rfl, w2, hf2, hv2, hM2, hr2⟩
  cases hr2
  have hL2 : LI E sh2 sz2 V2 x q.2.2 := LI.next hL (Or.inl hE1) hC1 hM2 hf2 hI2
  refine g_istore dL_law_1882 (Nat.le_of_ble_eq_true rfl) rfl ?_
  show G _ _ _ _ _ _ _ _ _ [_, _, _, _, _, _, _, _] _
  refine g_aload_n dL_law_1884 rfl ?_
  refine g_callV (M := (ML_law tb nm)) (pc := 1885) (Y := YX7_thrown) sv_L_136 rfl yn_X7_thrown 9 (by decide) rfl rfl dL_law_1885 (r_thrown (E := E) hM2 (pR_ok (v := some (.int (nI q.1))))) (hM2.choose_spec.1.1) rfl rfl (lroom (a := 1) (b := 6) rfl hc hs) (Nat.le_of_ble_eq_true rfl) (fun _ _ _ _ h => Nat.le_of_eq h.2.2.1.symm) ?_ (fun _ _ _ _ h => nomatch h.1)
  rintro v sh3 sz3 V3 ⟨h3, rfl, rfl, rfl⟩
  cases h3
  refine g_iload dL_law_1888 rfl ?_
  refine g_icmp_eq (tgt := 1895) dL_law_1890 (by decide) (fun _ => ?_) (fun hq => absurd (rfl) hq)
  refine g_iload dL_law_1895 rfl ?_
  refine g_if_ne (tgt := 1912) dL_law_1897 (by decide) (fun bz => ?_) (fun bz => ?_)
  · refine g_jump (tgt := 2250) dL_law_1912 (by decide) ?_
    exact g_widen (cu + 2) (su + 12) (by show cu + 1 + 0 + 0 ≤ cu + 2; omega) (by show su + 6 + 0 + 0 ≤ su + 12; omega) (hk _ _ _ _ _ _ hL2)
  · have q0 := nI_z hb3 bz
    obtain ⟨w, hw2⟩ := hv
    have e2 := hv2 q0
    rw [hw2] at e2
    cases e2
    have e3 : V3 (x + 292) 0 = .long w2.toInt64 := by rw [hf2 _ (by omega)]; exact hv1 w2 q0 hw2
    refine g_aload_n dL_law_1900 rfl ?_
    refine g_iconst (v := nI 0) dL_law_1901 (by decide) ?_
    refine g_laload dL_law_1902 ho1 (vp_in_nI (by decide) (by decide)) (at_nI (by decide) e3) ?_
    refine g_iload dL_law_1903 rfl ?_
    refine g_i2l dL_law_1905 rfl ?_
    refine g_lcmp dL_law_1906 ?_
    rw [lcmp_z rfl]
    refine g_if_eq (tgt := 1912) dL_law_1907 (by decide) (fun _ => ?_) (fun hq => absurd (rfl) hq)
    refine g_jump (tgt := 2250) dL_law_1912 (by decide) ?_
    exact g_widen (cu + 2) (su + 12) (by show cu + 1 + 0 + 0 ≤ cu + 2; omega) (by show su + 6 + 0 + 0 ≤ su + 12; omega) (hk _ _ _ _ _ _ hL2)
theorem b_errorPosition  : (sp_errorPosition S).1 ≤ 3 := by
  unfold sp_errorPosition
  repeat' split
  all_goals first | exact Nat.zero_le _ | exact Nat.le_of_ble_eq_true rfl
theorem u_errorPosition  : (sp_errorPosition S).2.2 = S := by
  unfold sp_errorPosition
  repeat' split
  all_goals rfl
set_option maxRecDepth 100000 in
theorem la_errorPosition (hL : LI E sh sz V x S) (hi : i + 5 ≤ E.2.2.2.2.2.2.1) (hc : cu + 2 ≤ 603072) (hs : su + 12 ≤ 7215210) (hk : LK E tb nm P x i cu su) : G E (ML_law tb nm) P sh sz V cu su 1915 [some (.ref E.2.2.2.2.2.1), some (.ref x), some (.ref (x + 284)), some (.ref (x + 292)), some (.ref (x + 293)), some (.int (nI i)), z6, z7] [] := by
  obtain ⟨hC, hI, ⟨th, hM⟩, hW, ho, hd, hsz, hlen⟩ := id hL
  obtain ⟨q, hq⟩ : ∃ q, q = sp_errorPosition S := ⟨_, rfl⟩
  have hI2 : InvS q.2.2 := by rw [hq]; rw [u_errorPosition]; exact hI
  have hb3 : q.1 ≤ 3 := by rw [hq]; exact b_errorPosition
  have hv : q.1 = 0 ∧ ∃ w, q.2.1 = .int w := by rw [hq]; exact ⟨rfl, _, rfl⟩
  have hw : MC E YX6_errorPosition [.ref x] sh sz V (P6 x sh sz V [] q) := by rw [hq]; exact m_errorPosition hC hW cp6
  refine g_aload_n dL_law_1915 rfl ?_
  refine g_callV (M := (ML_law tb nm)) (pc := 1916) (Y := YX6_errorPosition) sv_L_226 rfl yn_X6_errorPosition 8 (by decide) rfl rfl dL_law_1916 hw hC.1.1 rfl rfl (lroom (a := 0) (b := 0) rfl hc hs) (Nat.le_of_ble_eq_true rfl) (fun _ _ _ _ h => h.1.1) ?_ (fun _ _ _ _ h => absurd hv.1 h.2.2.1)
  rintro v sh1 sz1 V1 ⟨hE1, hC1, hq0, rfl⟩
  have hE1 := hE1.wo (o := x + 292)
  obtain ⟨w, hw2⟩ := hv.2
  rw [hw2]
  have hM1 : MS sh1 V1 (x + 284) S th := LI.mod hM hsz hE1 (by omega)
  have hr : MC E YX7_errorPosition [.ref (x + 284)] sh1 sz1 V1 (P7 sh1 (x + 284) sz1 V1 q) := by rw [hq]; exact r_errorPosition hM1 p7
  show G _ _ _ _ _ _ _ _ _ _ [.int w]
  refine g_aload_n dL_law_1919 rfl ?_
  refine g_callV (M := (ML_law tb nm)) (pc := 1920) (Y := YX7_errorPosition) sv_L_229 rfl yn_X7_errorPosition 9 (by decide) rfl rfl dL_law_1920 hr (hM1.choose_spec.1.1) rfl rfl (lroom (a := 0) (b := 0) rfl hc hs) (Nat.le_of_ble_eq_true rfl) (fun _ _ _ _ h => Nat.le_of_eq h.2.1.symm) ?_ (fun _ _ _ _ h => by obtain ⟨-, -, w, -, -, -, h⟩ := h; exact nomatch h)
  rintro v sh2 sz2 V2 ⟨rfl, rfl, w2, hf2, hv2, hM2, hr2⟩
  cases hr2
  have hL2 : LI E sh2 sz2 V2 x q.2.2 := LI.next hL (Or.inl hE1) hC1 hM2 hf2 hI2
  have e2 := hv2 hv.1
  rw [hw2] at e2
  cases e2
  show G _ _ _ _ _ _ _ _ _ _ [.int w, .int w]
  refine g_icmp_eq (tgt := 2250) dL_law_1923 (by decide) (fun _ => ?_) (fun hq => absurd (rfl) hq)
  exact g_widen (cu + 2) (su + 12) (by show cu + 0 + 0 ≤ cu + 2; omega) (by show su + 0 + 0 ≤ su + 12; omega) (hk _ _ _ _ _ _ hL2)
theorem b_refusal {d : Int32} : (sp_refusal S d).1 ≤ 3 := by
  unfold sp_refusal
  repeat' split
  all_goals first | exact Nat.zero_le _ | exact Nat.le_of_ble_eq_true rfl
theorem u_refusal {d : Int32} : (sp_refusal S d).2.2 = S := by
  unfold sp_refusal
  repeat' split
  all_goals rfl
set_option maxRecDepth 100000 in
theorem la_refusal (hL : LI E sh sz V x S) (hi : i + 5 ≤ E.2.2.2.2.2.2.1) (hc : cu + 2 ≤ 603072) (hs : su + 12 ≤ 7215210) (hk : LK E tb nm P x i cu su) : G E (ML_law tb nm) P sh sz V cu su 1928 [some (.ref E.2.2.2.2.2.1), some (.ref x), some (.ref (x + 284)), some (.ref (x + 292)), some (.ref (x + 293)), some (.int (nI i)), z6, z7] [] := by
  obtain ⟨hC, hI, ⟨th, hM⟩, hW, ho, hd, hsz, hlen⟩ := id hL
  by_cases zb : E.2.2.2.2.2.2.2 (i + 1) = 0
  · skip
    obtain ⟨q, hq⟩ : ∃ q, q = sp_refusal S (nI 0) := ⟨_, rfl⟩
    have hI2 : InvS q.2.2 := by rw [hq]; rw [u_refusal]; exact hI
    have hb3 : q.1 ≤ 3 := by rw [hq]; exact b_refusal
    have hv : ∃ w, q.2.1 = .int w := by rw [hq]; exact v_refusal
    have hw : MCH E YL_refusal [(0, 9, 12, 27)] [.ref x, .int (nI 0), .ref (x + 292)] sh sz V (WI x (x + 292) sh sz V q) := by rw [hq]; exact w_refusal hC hI hW ho (by omega) (by omega)
    refine g_aload_n dL_law_1928 rfl ?_
    refine g_aload_n dL_law_1929 rfl ?_
    refine g_iload dL_law_1930 rfl ?_
    refine g_iconst (v := nI 1) dL_law_1932 (by decide) ?_
    refine g_iadd dL_law_1933 ?_
    refine g_sld (k := i + 1) dL_law_1934 (nI_add _ _) (by omega) hlen ?_
    refine g_if_eq (tgt := 1942) dL_law_1935 (by decide) (fun _ => ?_) (fun hq => absurd (zb) hq)
    refine g_iconst (v := nI 0) dL_law_1942 (by decide) ?_
    refine g_aload_n dL_law_1943 rfl ?_
    refine g_callSH (M := (ML_law tb nm)) (pc := 1944) (Y := YL_refusal) (gIn_SH ml_L_230 wt_L_refusal ini_L wc_L_refusal) yn_L_refusal dL_law_1944 hw rfl rfl (lroom (a := 0) (b := 0) rfl hc hs) (Nat.le_of_ble_eq_true rfl) (fun _ _ _ _ h => h.1.1) (fun _ _ _ _ h => nomatch h.2.2.2) ?_
    rintro v sh1 sz1 V1 ⟨hE1, hC1, hv1, hr⟩
    cases hr
    have hM1 : MS sh1 V1 (x + 284) S th := LI.mod hM hsz hE1 (by omega)
    have ho1 := ((hE1.2.1 (x + 292) (by omega)).1).trans ho
    have hr : MC E YX7_refusal [.ref (x + 284), .int (nI 0)] sh1 sz1 V1 (P7 sh1 (x + 284) sz1 V1 q) := by rw [hq]; exact r_refusal hM1 p7
    refine g_istore dL_law_1947 (Nat.le_of_ble_eq_true rfl) rfl ?_
    show G _ _ _ _ _ _ _ _ _ [_, _, _, _, _, _, _, _] _
    refine g_aload_n dL_law_1949 rfl ?_
    refine g_aload_n dL_law_1950 rfl ?_
    refine g_iload dL_law_1951 rfl ?_
    refine g_iconst (v := nI 1) dL_law_1953 (by decide) ?_
    refine g_iadd dL_law_1954 ?_
    refine g_sld (k := i + 1) dL_law_1955 (nI_add _ _) (by omega) hlen ?_
    refine g_if_eq (tgt := 1963) dL_law_1956 (by decide) (fun _ => ?_) (fun hq => absurd (zb) hq)
    refine g_iconst (v := nI 0) dL_law_1963 (by decide) ?_
    refine g_callV (M := (ML_law tb nm)) (pc := 1964) (Y := YX7_refusal) sv_L_233 rfl yn_X7_refusal 9 (by decide) rfl rfl dL_law_1964 hr (hM1.choose_spec.1.1) rfl rfl (lroom (a := 1) (b := 6) rfl hc hs) (Nat.le_of_ble_eq_true rfl) (fun _ _ _ _ h => Nat.le_of_eq h.2.1.symm) ?_ (fun _ _ _ _ h => by obtain ⟨-, -, w, -, -, -, h⟩ := h; exact nomatch h)
    rintro v sh2 sz2 V2 ⟨rfl, rfl, w2, hf2, hv2, hM2, hr2⟩
    cases hr2
    have hL2 : LI E sh2 sz2 V2 x q.2.2 := LI.next hL (Or.inl hE1) hC1 hM2 hf2 hI2
    refine g_istore dL_law_1967 (Nat.le_of_ble_eq_true rfl) rfl ?_
    show G _ _ _ _ _ _ _ _ _ [_, _, _, _, _, _, _, _] _
    refine g_aload_n dL_law_1969 rfl ?_
    refine g_callV (M := (ML_law tb nm)) (pc := 1970) (Y := YX7_thrown) sv_L_136 rfl yn_X7_thrown 9 (by decide) rfl rfl dL_law_1970 (r_thrown (E := E) hM2 (pR_ok (v := some (.int (nI q.1))))) (hM2.choose_spec.1.1) rfl rfl (lroom (a := 1) (b := 6) rfl hc hs) (Nat.le_of_ble_eq_true rfl) (fun _ _ _ _ h => Nat.le_of_eq h.2.2.1.symm) ?_ (fun _ _ _ _ h => nomatch h.1)
    rintro v sh3 sz3 V3 ⟨h3, rfl, rfl, rfl⟩
    cases h3
    refine g_iload dL_law_1973 rfl ?_
    refine g_icmp_eq (tgt := 1980) dL_law_1975 (by decide) (fun _ => ?_) (fun hq => absurd (rfl) hq)
    refine g_iload dL_law_1980 rfl ?_
    refine g_if_ne (tgt := 1997) dL_law_1982 (by decide) (fun bz => ?_) (fun bz => ?_)
    · refine g_jump (tgt := 2250) dL_law_1997 (by decide) ?_
      exact g_widen (cu + 2) (su + 12) (by show cu + 1 + 0 + 0 ≤ cu + 2; omega) (by show su + 6 + 0 + 0 ≤ su + 12; omega) (hk _ _ _ _ _ _ hL2)
    · have q0 := nI_z hb3 bz
      obtain ⟨w, hw2⟩ := hv
      have e2 := hv2 q0
      rw [hw2] at e2
      cases e2
      have e3 : V3 (x + 292) 0 = .long w2.toInt64 := by rw [hf2 _ (by omega)]; exact hv1 w2 q0 hw2
      refine g_aload_n dL_law_1985 rfl ?_
      refine g_iconst (v := nI 0) dL_law_1986 (by decide) ?_
      refine g_laload dL_law_1987 ho1 (vp_in_nI (by decide) (by decide)) (at_nI (by decide) e3) ?_
      refine g_iload dL_law_1988 rfl ?_
      refine g_i2l dL_law_1990 rfl ?_
      refine g_lcmp dL_law_1991 ?_
      rw [lcmp_z rfl]
      refine g_if_eq (tgt := 1997) dL_law_1992 (by decide) (fun _ => ?_) (fun hq => absurd (rfl) hq)
      refine g_jump (tgt := 2250) dL_law_1997 (by decide) ?_
      exact g_widen (cu + 2) (su + 12) (by show cu + 1 + 0 + 0 ≤ cu + 2; omega) (by show su + 6 + 0 + 0 ≤ su + 12; omega) (hk _ _ _ _ _ _ hL2)
  · skip
    obtain ⟨q, hq⟩ : ∃ q, q = sp_refusal S (nI 1) := ⟨_, rfl⟩
    have hI2 : InvS q.2.2 := by rw [hq]; rw [u_refusal]; exact hI
    have hb3 : q.1 ≤ 3 := by rw [hq]; exact b_refusal
    have hv : ∃ w, q.2.1 = .int w := by rw [hq]; exact v_refusal
    have hw : MCH E YL_refusal [(0, 9, 12, 27)] [.ref x, .int (nI 1), .ref (x + 292)] sh sz V (WI x (x + 292) sh sz V q) := by rw [hq]; exact w_refusal hC hI hW ho (by omega) (by omega)
    refine g_aload_n dL_law_1928 rfl ?_
    refine g_aload_n dL_law_1929 rfl ?_
    refine g_iload dL_law_1930 rfl ?_
    refine g_iconst (v := nI 1) dL_law_1932 (by decide) ?_
    refine g_iadd dL_law_1933 ?_
    refine g_sld (k := i + 1) dL_law_1934 (nI_add _ _) (by omega) hlen ?_
    refine g_if_eq (tgt := 1942) dL_law_1935 (by decide) (fun hq => absurd hq (zb)) (fun _ => ?_)
    refine g_iconst (v := nI 1) dL_law_1938 (by decide) ?_
    refine g_jump (tgt := 1943) dL_law_1939 (by decide) ?_
    refine g_aload_n dL_law_1943 rfl ?_
    refine g_callSH (M := (ML_law tb nm)) (pc := 1944) (Y := YL_refusal) (gIn_SH ml_L_230 wt_L_refusal ini_L wc_L_refusal) yn_L_refusal dL_law_1944 hw rfl rfl (lroom (a := 0) (b := 0) rfl hc hs) (Nat.le_of_ble_eq_true rfl) (fun _ _ _ _ h => h.1.1) (fun _ _ _ _ h => nomatch h.2.2.2) ?_
    rintro v sh1 sz1 V1 ⟨hE1, hC1, hv1, hr⟩
    cases hr
    have hM1 : MS sh1 V1 (x + 284) S th := LI.mod hM hsz hE1 (by omega)
    have ho1 := ((hE1.2.1 (x + 292) (by omega)).1).trans ho
    have hr : MC E YX7_refusal [.ref (x + 284), .int (nI 1)] sh1 sz1 V1 (P7 sh1 (x + 284) sz1 V1 q) := by rw [hq]; exact r_refusal hM1 p7
    refine g_istore dL_law_1947 (Nat.le_of_ble_eq_true rfl) rfl ?_
    show G _ _ _ _ _ _ _ _ _ [_, _, _, _, _, _, _, _] _
    refine g_aload_n dL_law_1949 rfl ?_
    refine g_aload_n dL_law_1950 rfl ?_
    refine g_iload dL_law_1951 rfl ?_
    refine g_iconst (v := nI 1) dL_law_1953 (by decide) ?_
    refine g_iadd dL_law_1954 ?_
    refine g_sld (k := i + 1) dL_law_1955 (nI_add _ _) (by omega) hlen ?_
    refine g_if_eq (tgt := 1963) dL_law_1956 (by decide) (fun hq => absurd hq (zb)) (fun _ => ?_)
    refine g_iconst (v := nI 1) dL_law_1959 (by decide) ?_
    refine g_jump (tgt := 1964) dL_law_1960 (by decide) ?_
    refine g_callV (M := (ML_law tb nm)) (pc := 1964) (Y := YX7_refusal) sv_L_233 rfl yn_X7_refusal 9 (by decide) rfl rfl dL_law_1964 hr (hM1.choose_spec.1.1) rfl rfl (lroom (a := 1) (b := 6) rfl hc hs) (Nat.le_of_ble_eq_true rfl) (fun _ _ _ _ h => Nat.le_of_eq h.2.1.symm) ?_ (fun _ _ _ _ h => by obtain ⟨-, -, w, -, -, -, h⟩ := h; exact nomatch h)
    rintro v sh2 sz2 V2 ⟨rfl, rfl, w2, hf2, hv2, hM2, hr2⟩
    cases hr2
    have hL2 : LI E sh2 sz2 V2 x q.2.2 := LI.next hL (Or.inl hE1) hC1 hM2 hf2 hI2
    refine g_istore dL_law_1967 (Nat.le_of_ble_eq_true rfl) rfl ?_
    show G _ _ _ _ _ _ _ _ _ [_, _, _, _, _, _, _, _] _
    refine g_aload_n dL_law_1969 rfl ?_
    refine g_callV (M := (ML_law tb nm)) (pc := 1970) (Y := YX7_thrown) sv_L_136 rfl yn_X7_thrown 9 (by decide) rfl rfl dL_law_1970 (r_thrown (E := E) hM2 (pR_ok (v := some (.int (nI q.1))))) (hM2.choose_spec.1.1) rfl rfl (lroom (a := 1) (b := 6) rfl hc hs) (Nat.le_of_ble_eq_true rfl) (fun _ _ _ _ h => Nat.le_of_eq h.2.2.1.symm) ?_ (fun _ _ _ _ h => nomatch h.1)
    rintro v sh3 sz3 V3 ⟨h3, rfl, rfl, rfl⟩
    cases h3
    refine g_iload dL_law_1973 rfl ?_
    refine g_icmp_eq (tgt := 1980) dL_law_1975 (by decide) (fun _ => ?_) (fun hq => absurd (rfl) hq)
    refine g_iload dL_law_1980 rfl ?_
    refine g_if_ne (tgt := 1997) dL_law_1982 (by decide) (fun bz => ?_) (fun bz => ?_)
    · refine g_jump (tgt := 2250) dL_law_1997 (by decide) ?_
      exact g_widen (cu + 2) (su + 12) (by show cu + 1 + 0 + 0 ≤ cu + 2; omega) (by show su + 6 + 0 + 0 ≤ su + 12; omega) (hk _ _ _ _ _ _ hL2)
    · have q0 := nI_z hb3 bz
      obtain ⟨w, hw2⟩ := hv
      have e2 := hv2 q0
      rw [hw2] at e2
      cases e2
      have e3 : V3 (x + 292) 0 = .long w2.toInt64 := by rw [hf2 _ (by omega)]; exact hv1 w2 q0 hw2
      refine g_aload_n dL_law_1985 rfl ?_
      refine g_iconst (v := nI 0) dL_law_1986 (by decide) ?_
      refine g_laload dL_law_1987 ho1 (vp_in_nI (by decide) (by decide)) (at_nI (by decide) e3) ?_
      refine g_iload dL_law_1988 rfl ?_
      refine g_i2l dL_law_1990 rfl ?_
      refine g_lcmp dL_law_1991 ?_
      rw [lcmp_z rfl]
      refine g_if_eq (tgt := 1997) dL_law_1992 (by decide) (fun _ => ?_) (fun hq => absurd (rfl) hq)
      refine g_jump (tgt := 2250) dL_law_1997 (by decide) ?_
      exact g_widen (cu + 2) (su + 12) (by show cu + 1 + 0 + 0 ≤ cu + 2; omega) (by show su + 6 + 0 + 0 ≤ su + 12; omega) (hk _ _ _ _ _ _ hL2)
theorem b_account {w : Int32} : (sp_account S w).1 ≤ 3 := by
  unfold sp_account
  repeat' split
  all_goals first | exact Nat.zero_le _ | exact Nat.le_of_ble_eq_true rfl
theorem u_account {w : Int32} : (sp_account S w).2.2 = S := by
  unfold sp_account
  repeat' split
  all_goals rfl
set_option maxRecDepth 100000 in
theorem la_account (hL : LI E sh sz V x S) (hi : i + 5 ≤ E.2.2.2.2.2.2.1) (hc : cu + 2 ≤ 603072) (hs : su + 12 ≤ 7215210) (hk : LK E tb nm P x i cu su) : G E (ML_law tb nm) P sh sz V cu su 2000 [some (.ref E.2.2.2.2.2.1), some (.ref x), some (.ref (x + 284)), some (.ref (x + 292)), some (.ref (x + 293)), some (.int (nI i)), z6, z7] [] := by
  obtain ⟨hC, hI, ⟨th, hM⟩, hW, ho, hd, hsz, hlen⟩ := id hL
  obtain ⟨q, hq⟩ : ∃ q, q = sp_account S (E.2.2.2.2.2.2.2 (i + 1)) := ⟨_, rfl⟩
  have hI2 : InvS q.2.2 := by rw [hq]; rw [u_account]; exact hI
  have hb3 : q.1 ≤ 3 := by rw [hq]; exact b_account
  have hv : ∃ w, q.2.1 = .int w := by rw [hq]; exact v_account
  have hw : MCH E YL_account [(0, 9, 12, 13)] [.ref x, .int (E.2.2.2.2.2.2.2 (i + 1)), .ref (x + 292)] sh sz V (WI x (x + 292) sh sz V q) := by rw [hq]; exact w_account hC hI hW ho (by omega) (by omega)
  refine g_aload_n dL_law_2000 rfl ?_
  refine g_aload_n dL_law_2001 rfl ?_
  refine g_iload dL_law_2002 rfl ?_
  refine g_iconst (v := nI 1) dL_law_2004 (by decide) ?_
  refine g_iadd dL_law_2005 ?_
  refine g_sld (k := i + 1) dL_law_2006 (nI_add _ _) (by omega) hlen ?_
  refine g_aload_n dL_law_2007 rfl ?_
  refine g_callSH (M := (ML_law tb nm)) (pc := 2008) (Y := YL_account) (gIn_SH ml_L_234 wt_L_account ini_L wc_L_account) yn_L_account dL_law_2008 hw rfl rfl (lroom (a := 0) (b := 0) rfl hc hs) (Nat.le_of_ble_eq_true rfl) (fun _ _ _ _ h => h.1.1) (fun _ _ _ _ h => nomatch h.2.2.2) ?_
  rintro v sh1 sz1 V1 ⟨hE1, hC1, hv1, hr⟩
  cases hr
  have hM1 : MS sh1 V1 (x + 284) S th := LI.mod hM hsz hE1 (by omega)
  have ho1 := ((hE1.2.1 (x + 292) (by omega)).1).trans ho
  have hr : MC E YX7_account [.ref (x + 284), .int (E.2.2.2.2.2.2.2 (i + 1))] sh1 sz1 V1 (P7 sh1 (x + 284) sz1 V1 q) := by rw [hq]; exact r_account hM1 hI.1 p7
  refine g_istore dL_law_2011 (Nat.le_of_ble_eq_true rfl) rfl ?_
  show G _ _ _ _ _ _ _ _ _ [_, _, _, _, _, _, _, _] _
  refine g_aload_n dL_law_2013 rfl ?_
  refine g_aload_n dL_law_2014 rfl ?_
  refine g_iload dL_law_2015 rfl ?_
  refine g_iconst (v := nI 1) dL_law_2017 (by decide) ?_
  refine g_iadd dL_law_2018 ?_
  refine g_sld (k := i + 1) dL_law_2019 (nI_add _ _) (by omega) hlen ?_
  refine g_callV (M := (ML_law tb nm)) (pc := 2020) (Y := YX7_account) sv_L_236 rfl yn_X7_account 9 (by decide) rfl rfl dL_law_2020 hr (hM1.choose_spec.1.1) rfl rfl (lroom (a := 1) (b := 6) rfl hc hs) (Nat.le_of_ble_eq_true rfl) (fun _ _ _ _ h => Nat.le_of_eq h.2.1.symm) ?_ (fun _ _ _ _ h => by obtain ⟨-, -, w, -, -, -, h⟩ := h; exact nomatch h)
  rintro v sh2 sz2 V2 ⟨rfl, rfl, w2, hf2, hv2, hM2, hr2⟩
  cases hr2
  have hL2 : LI E sh2 sz2 V2 x q.2.2 := LI.next hL (Or.inl hE1) hC1 hM2 hf2 hI2
  refine g_istore dL_law_2023 (Nat.le_of_ble_eq_true rfl) rfl ?_
  show G _ _ _ _ _ _ _ _ _ [_, _, _, _, _, _, _, _] _
  refine g_aload_n dL_law_2025 rfl ?_
  refine g_callV (M := (ML_law tb nm)) (pc := 2026) (Y := YX7_thrown) sv_L_136 rfl yn_X7_thrown 9 (by decide) rfl rfl dL_law_2026 (r_thrown (E := E) hM2 (pR_ok (v := some (.int (nI q.1))))) (hM2.choose_spec.1.1) rfl rfl (lroom (a := 1) (b := 6) rfl hc hs) (Nat.le_of_ble_eq_true rfl) (fun _ _ _ _ h => Nat.le_of_eq h.2.2.1.symm) ?_ (fun _ _ _ _ h => nomatch h.1)
  rintro v sh3 sz3 V3 ⟨h3, rfl, rfl, rfl⟩
  cases h3
  refine g_iload dL_law_2029 rfl ?_
  refine g_icmp_eq (tgt := 2036) dL_law_2031 (by decide) (fun _ => ?_) (fun hq => absurd (rfl) hq)
  refine g_iload dL_law_2036 rfl ?_
  refine g_if_ne (tgt := 2053) dL_law_2038 (by decide) (fun bz => ?_) (fun bz => ?_)
  · refine g_jump (tgt := 2250) dL_law_2053 (by decide) ?_
    exact g_widen (cu + 2) (su + 12) (by show cu + 1 + 0 + 0 ≤ cu + 2; omega) (by show su + 6 + 0 + 0 ≤ su + 12; omega) (hk _ _ _ _ _ _ hL2)
  · have q0 := nI_z hb3 bz
    obtain ⟨w, hw2⟩ := hv
    have e2 := hv2 q0
    rw [hw2] at e2
    cases e2
    have e3 : V3 (x + 292) 0 = .long w2.toInt64 := by rw [hf2 _ (by omega)]; exact hv1 w2 q0 hw2
    refine g_aload_n dL_law_2041 rfl ?_
    refine g_iconst (v := nI 0) dL_law_2042 (by decide) ?_
    refine g_laload dL_law_2043 ho1 (vp_in_nI (by decide) (by decide)) (at_nI (by decide) e3) ?_
    refine g_iload dL_law_2044 rfl ?_
    refine g_i2l dL_law_2046 rfl ?_
    refine g_lcmp dL_law_2047 ?_
    rw [lcmp_z rfl]
    refine g_if_eq (tgt := 2053) dL_law_2048 (by decide) (fun _ => ?_) (fun hq => absurd (rfl) hq)
    refine g_jump (tgt := 2250) dL_law_2053 (by decide) ?_
    exact g_widen (cu + 2) (su + 12) (by show cu + 1 + 0 + 0 ≤ cu + 2; omega) (by show su + 6 + 0 + 0 ≤ su + 12; omega) (hk _ _ _ _ _ _ hL2)
theorem b_isWell  : (sp_isWell S).1 ≤ 3 := by
  unfold sp_isWell
  repeat' split
  all_goals first | exact Nat.zero_le _ | exact Nat.le_of_ble_eq_true rfl
theorem u_isWell  : (sp_isWell S).2.2 = S := by
  unfold sp_isWell
  repeat' split
  all_goals rfl
set_option maxRecDepth 100000 in
theorem la_isWell (hL : LI E sh sz V x S) (hi : i + 5 ≤ E.2.2.2.2.2.2.1) (hc : cu + 2 ≤ 603072) (hs : su + 12 ≤ 7215210) (hk : LK E tb nm P x i cu su) : G E (ML_law tb nm) P sh sz V cu su 2056 [some (.ref E.2.2.2.2.2.1), some (.ref x), some (.ref (x + 284)), some (.ref (x + 292)), some (.ref (x + 293)), some (.int (nI i)), z6, z7] [] := by
  obtain ⟨hC, hI, ⟨th, hM⟩, hW, ho, hd, hsz, hlen⟩ := id hL
  obtain ⟨q, hq⟩ : ∃ q, q = sp_isWell S := ⟨_, rfl⟩
  have hI2 : InvS q.2.2 := by rw [hq]; rw [u_isWell]; exact hI
  have hb3 : q.1 ≤ 3 := by rw [hq]; exact b_isWell
  have hv : q.1 = 0 ∧ ∃ w, q.2.1 = .int w := by rw [hq]; exact ⟨rfl, _, rfl⟩
  have hw : MC E YX6_isWell [.ref x] sh sz V (P6 x sh sz V [] q) := by rw [hq]; exact m_isWell hC hI.1 hW cp6
  refine g_aload_n dL_law_2056 rfl ?_
  refine g_callV (M := (ML_law tb nm)) (pc := 2057) (Y := YX6_isWell) sv_L_237 rfl yn_X6_isWell 8 (by decide) rfl rfl dL_law_2057 hw hC.1.1 rfl rfl (lroom (a := 0) (b := 0) rfl hc hs) (Nat.le_of_ble_eq_true rfl) (fun _ _ _ _ h => h.1.1) ?_ (fun _ _ _ _ h => absurd hv.1 h.2.2.1)
  rintro v sh1 sz1 V1 ⟨hE1, hC1, hq0, rfl⟩
  have hE1 := hE1.wo (o := x + 292)
  obtain ⟨w, hw2⟩ := hv.2
  rw [hw2]
  have hM1 : MS sh1 V1 (x + 284) S th := LI.mod hM hsz hE1 (by omega)
  have hr : MC E YX7_isWell [.ref (x + 284)] sh1 sz1 V1 (P7 sh1 (x + 284) sz1 V1 q) := by rw [hq]; exact r_isWell hM1 hI.1 p7
  show G _ _ _ _ _ _ _ _ _ _ [.int w]
  refine g_aload_n dL_law_2060 rfl ?_
  refine g_callV (M := (ML_law tb nm)) (pc := 2061) (Y := YX7_isWell) sv_L_241 rfl yn_X7_isWell 9 (by decide) rfl rfl dL_law_2061 hr (hM1.choose_spec.1.1) rfl rfl (lroom (a := 0) (b := 0) rfl hc hs) (Nat.le_of_ble_eq_true rfl) (fun _ _ _ _ h => Nat.le_of_eq h.2.1.symm) ?_ (fun _ _ _ _ h => by obtain ⟨-, -, w, -, -, -, h⟩ := h; exact nomatch h)
  rintro v sh2 sz2 V2 ⟨rfl, rfl, w2, hf2, hv2, hM2, hr2⟩
  cases hr2
  have hL2 : LI E sh2 sz2 V2 x q.2.2 := LI.next hL (Or.inl hE1) hC1 hM2 hf2 hI2
  have e2 := hv2 hv.1
  rw [hw2] at e2
  cases e2
  show G _ _ _ _ _ _ _ _ _ _ [.int w, .int w]
  refine g_icmp_eq (tgt := 2250) dL_law_2064 (by decide) (fun _ => ?_) (fun hq => absurd (rfl) hq)
  exact g_widen (cu + 2) (su + 12) (by show cu + 0 + 0 ≤ cu + 2; omega) (by show su + 0 + 0 ≤ su + 12; omega) (hk _ _ _ _ _ _ hL2)
theorem b_meanBits  : (sp_meanBits S).1 ≤ 3 := by
  unfold sp_meanBits
  repeat' split
  all_goals first | exact Nat.zero_le _ | exact Nat.le_of_ble_eq_true rfl
theorem u_meanBits  : (sp_meanBits S).2.2 = S := by
  unfold sp_meanBits
  repeat' split
  all_goals rfl
set_option maxRecDepth 100000 in
theorem la_meanBits (hL : LI E sh sz V x S) (hi : i + 5 ≤ E.2.2.2.2.2.2.1) (hc : cu + 2 ≤ 603072) (hs : su + 12 ≤ 7215210) (hk : LK E tb nm P x i cu su) : G E (ML_law tb nm) P sh sz V cu su 2069 [some (.ref E.2.2.2.2.2.1), some (.ref x), some (.ref (x + 284)), some (.ref (x + 292)), some (.ref (x + 293)), some (.int (nI i)), z6, z7] [] := by
  obtain ⟨hC, hI, ⟨th, hM⟩, hW, ho, hd, hsz, hlen⟩ := id hL
  obtain ⟨q, hq⟩ : ∃ q, q = sp_meanBits S := ⟨_, rfl⟩
  have hI2 : InvS q.2.2 := by rw [hq]; rw [u_meanBits]; exact hI
  have hb3 : q.1 ≤ 3 := by rw [hq]; exact b_meanBits
  have hv : q.1 = 0 ∧ ∃ w, q.2.1 = .long w := by rw [hq]; exact ⟨rfl, _, rfl⟩
  have hw : MC E YX6_meanBits [.ref x] sh sz V (P6 x sh sz V [] q) := by rw [hq]; exact m_meanBits hC hI.1.1 hW cp6
  refine g_aload_n dL_law_2069 rfl ?_
  refine g_callV (M := (ML_law tb nm)) (pc := 2070) (Y := YX6_meanBits) sv_L_242 rfl yn_X6_meanBits 8 (by decide) rfl rfl dL_law_2070 hw hC.1.1 rfl rfl (lroom (a := 0) (b := 0) rfl hc hs) (Nat.le_of_ble_eq_true rfl) (fun _ _ _ _ h => h.1.1) ?_ (fun _ _ _ _ h => absurd hv.1 h.2.2.1)
  rintro v sh1 sz1 V1 ⟨hE1, hC1, hq0, rfl⟩
  have hE1 := hE1.wo (o := x + 292)
  obtain ⟨w, hw2⟩ := hv.2
  rw [hw2]
  have hM1 : MS sh1 V1 (x + 284) S th := LI.mod hM hsz hE1 (by omega)
  have hr : MC E YX7_meanBits [.ref (x + 284)] sh1 sz1 V1 (P7L sh1 (x + 284) sz1 V1 q) := by rw [hq]; exact r_meanBits hM1 hI.1.1 p7L
  show G _ _ _ _ _ _ _ _ _ _ [.long w]
  refine g_aload_n dL_law_2073 rfl ?_
  refine g_callV (M := (ML_law tb nm)) (pc := 2074) (Y := YX7_meanBits) sv_L_246 rfl yn_X7_meanBits 9 (by decide) rfl rfl dL_law_2074 hr (hM1.choose_spec.1.1) rfl rfl (lroom (a := 0) (b := 0) rfl hc hs) (Nat.le_of_ble_eq_true rfl) (fun _ _ _ _ h => Nat.le_of_eq h.2.1.symm) ?_ (fun _ _ _ _ h => by obtain ⟨-, -, w, -, -, -, h⟩ := h; exact nomatch h)
  rintro v sh2 sz2 V2 ⟨rfl, rfl, w2, hf2, hv2, hM2, hr2⟩
  cases hr2
  have hL2 : LI E sh2 sz2 V2 x q.2.2 := LI.next hL (Or.inl hE1) hC1 hM2 hf2 hI2
  have e2 := hv2 hv.1
  rw [hw2] at e2
  cases e2
  show G _ _ _ _ _ _ _ _ _ _ [.long w, .long w]
  refine g_lcmp dL_law_2077 ?_
  rw [lcmp_z rfl]
  refine g_if_eq (tgt := 2250) dL_law_2078 (by decide) (fun _ => ?_) (fun hq => absurd (rfl) hq)
  exact g_widen (cu + 2) (su + 12) (by show cu + 0 + 0 ≤ cu + 2; omega) (by show su + 0 + 0 ≤ su + 12; omega) (hk _ _ _ _ _ _ hL2)
theorem b_share  : (sp_share S).1 ≤ 3 := by
  unfold sp_share
  repeat' split
  all_goals first | exact Nat.zero_le _ | exact Nat.le_of_ble_eq_true rfl
theorem u_share  : (sp_share S).2.2 = S := by
  unfold sp_share
  repeat' split
  all_goals rfl
set_option maxRecDepth 100000 in
theorem la_share (hL : LI E sh sz V x S) (hi : i + 5 ≤ E.2.2.2.2.2.2.1) (hc : cu + 2 ≤ 603072) (hs : su + 12 ≤ 7215210) (hk : LK E tb nm P x i cu su) : G E (ML_law tb nm) P sh sz V cu su 2083 [some (.ref E.2.2.2.2.2.1), some (.ref x), some (.ref (x + 284)), some (.ref (x + 292)), some (.ref (x + 293)), some (.int (nI i)), z6, z7] [] := by
  obtain ⟨hC, hI, ⟨th, hM⟩, hW, ho, hd, hsz, hlen⟩ := id hL
  obtain ⟨q, hq⟩ : ∃ q, q = sp_share S := ⟨_, rfl⟩
  have hI2 : InvS q.2.2 := by rw [hq]; rw [u_share]; exact hI
  have hb3 : q.1 ≤ 3 := by rw [hq]; exact b_share
  have hv : q.1 = 0 → ∃ w, q.2.1 = .float w ∧ vf_n32 w := by rw [hq]; exact v_share
  have hw : MCH E YL_share [(0, 8, 11, 118)] [.ref x, .ref (x + 293)] sh sz V (WF x (x + 293) sh sz V q) := by rw [hq]; exact w_share hC hI hW hd (by omega) (by omega)
  refine g_aload_n dL_law_2083 rfl ?_
  refine g_aload dL_law_2084 rfl ?_
  refine g_callSH (M := (ML_law tb nm)) (pc := 2086) (Y := YL_share) (gIn_SH ml_L_247 wt_L_share ini_L wc_L_share) yn_L_share dL_law_2086 hw rfl rfl (lroom (a := 0) (b := 0) rfl hc hs) (Nat.le_of_ble_eq_true rfl) (fun _ _ _ _ h => h.1.1) (fun _ _ _ _ h => nomatch h.2.2.2) ?_
  rintro v sh1 sz1 V1 ⟨hE1, hC1, hv1, hr⟩
  cases hr
  have hM1 : MS sh1 V1 (x + 284) S th := LI.mod hM hsz hE1 (by omega)
  have ho1 := ((hE1.2.1 (x + 293) (by omega)).1).trans hd
  have hr : MC E YX7_share [.ref (x + 284)] sh1 sz1 V1 (P7F sh1 (x + 284) sz1 V1 q) := by rw [hq]; exact r_share hM1 p7F
  refine g_istore dL_law_2089 (Nat.le_of_ble_eq_true rfl) rfl ?_
  show G _ _ _ _ _ _ _ _ _ [_, _, _, _, _, _, _, _] _
  refine g_aload_n dL_law_2091 rfl ?_
  refine g_callV (M := (ML_law tb nm)) (pc := 2092) (Y := YX7_share) sv_L_250 rfl yn_X7_share 9 (by decide) rfl rfl dL_law_2092 hr (hM1.choose_spec.1.1) rfl rfl (lroom (a := 1) (b := 6) rfl hc hs) (Nat.le_of_ble_eq_true rfl) (fun _ _ _ _ h => Nat.le_of_eq h.2.1.symm) ?_ (fun _ _ _ _ h => by obtain ⟨-, -, w, -, -, -, h⟩ := h; exact nomatch h)
  rintro v sh2 sz2 V2 ⟨rfl, rfl, w2, hf2, hv2, hM2, hr2⟩
  cases hr2
  have hL2 : LI E sh2 sz2 V2 x q.2.2 := LI.next hL (Or.inr hE1) hC1 hM2 hf2 hI2
  refine g_fstore dL_law_2095 (Nat.le_of_ble_eq_true rfl) rfl ?_
  show G _ _ _ _ _ _ _ _ _ [_, _, _, _, _, _, _, _] _
  refine g_aload_n dL_law_2097 rfl ?_
  refine g_callV (M := (ML_law tb nm)) (pc := 2098) (Y := YX7_thrown) sv_L_136 rfl yn_X7_thrown 9 (by decide) rfl rfl dL_law_2098 (r_thrown (E := E) hM2 (pR_ok (v := some (.int (nI q.1))))) (hM2.choose_spec.1.1) rfl rfl (lroom (a := 1) (b := 6) rfl hc hs) (Nat.le_of_ble_eq_true rfl) (fun _ _ _ _ h => Nat.le_of_eq h.2.2.1.symm) ?_ (fun _ _ _ _ h => nomatch h.1)
  rintro v sh3 sz3 V3 ⟨h3, rfl, rfl, rfl⟩
  cases h3
  refine g_iload dL_law_2101 rfl ?_
  refine g_icmp_eq (tgt := 2108) dL_law_2103 (by decide) (fun _ => ?_) (fun hq => absurd (rfl) hq)
  refine g_iload dL_law_2108 rfl ?_
  refine g_if_ne (tgt := 2146) dL_law_2110 (by decide) (fun bz => ?_) (fun bz => ?_)
  · refine g_jump (tgt := 2250) dL_law_2146 (by decide) ?_
    exact g_widen (cu + 2) (su + 12) (by show cu + 1 + 0 + 0 ≤ cu + 2; omega) (by show su + 6 + 0 + 0 ≤ su + 12; omega) (hk _ _ _ _ _ _ hL2)
  · have q0 := nI_z hb3 bz
    obtain ⟨w, hw2, hnn⟩ := hv q0
    have e2 := hv2 q0
    rw [hw2] at e2
    cases e2
    have e3 : V3 (x + 293) 0 = .double (FP.f2d w2) := by rw [hf2 _ (by omega)]; exact hv1 w2 q0 hw2
    refine g_aload dL_law_2113 rfl ?_
    refine g_iconst (v := nI 0) dL_law_2115 (by decide) ?_
    refine g_daload dL_law_2116 ho1 (vp_in_nI (by decide) (by decide)) (at_nI (by decide) e3) ?_
    refine g_fload dL_law_2117 rfl ?_
    refine g_f2d dL_law_2119 (vfd hnn) ?_
    refine g_dcmp dL_law_2120 ?_
    rw [dcmp_z hnn]
    refine g_if_eq (tgt := 2146) dL_law_2121 (by decide) (fun _ => ?_) (fun hq => absurd (rfl) hq)
    refine g_jump (tgt := 2250) dL_law_2146 (by decide) ?_
    exact g_widen (cu + 2) (su + 12) (by show cu + 1 + 0 + 0 ≤ cu + 2; omega) (by show su + 6 + 0 + 0 ≤ su + 12; omega) (hk _ _ _ _ _ _ hL2)
theorem b_undo  : (sp_undo S).1 ≤ 3 := by
  unfold sp_undo
  repeat' split
  all_goals first | exact Nat.zero_le _ | exact Nat.le_of_ble_eq_true rfl
set_option maxRecDepth 100000 in
theorem la_undo (hL : LI E sh sz V x S) (hi : i + 5 ≤ E.2.2.2.2.2.2.1) (hc : cu + 2 ≤ 603072) (hs : su + 12 ≤ 7215210) (hk : LK E tb nm P x i cu su) : G E (ML_law tb nm) P sh sz V cu su 2149 [some (.ref E.2.2.2.2.2.1), some (.ref x), some (.ref (x + 284)), some (.ref (x + 292)), some (.ref (x + 293)), some (.int (nI i)), z6, z7] [] := by
  obtain ⟨hC, hI, ⟨th, hM⟩, hW, ho, hd, hsz, hlen⟩ := id hL
  obtain ⟨q, hq⟩ : ∃ q, q = sp_undo S := ⟨_, rfl⟩
  have hI2 : InvS q.2.2 := by rw [hq]; exact s_undo hI
  have hb3 : q.1 ≤ 3 := by rw [hq]; exact b_undo
  have hv : ∃ w, q.2.1 = .int w := by rw [hq]; exact v_undo
  have hw : MCH E YL_undo [(0, 8, 11, 101)] [.ref x, .ref (x + 292)] sh sz V (WI x (x + 292) sh sz V q) := by rw [hq]; exact w_undo hC hI hW ho (by omega) (by omega)
  refine g_aload_n dL_law_2149 rfl ?_
  refine g_aload_n dL_law_2150 rfl ?_
  refine g_callSH (M := (ML_law tb nm)) (pc := 2151) (Y := YL_undo) (gIn_SH ml_L_251 wt_L_undo ini_L wc_L_undo) yn_L_undo dL_law_2151 hw rfl rfl (lroom (a := 0) (b := 0) rfl hc hs) (Nat.le_of_ble_eq_true rfl) (fun _ _ _ _ h => h.1.1) (fun _ _ _ _ h => nomatch h.2.2.2) ?_
  rintro v sh1 sz1 V1 ⟨hE1, hC1, hv1, hr⟩
  cases hr
  have hM1 : MS sh1 V1 (x + 284) S th := LI.mod hM hsz hE1 (by omega)
  have ho1 := ((hE1.2.1 (x + 292) (by omega)).1).trans ho
  have hr : MC E YX7_undo [.ref (x + 284)] sh1 sz1 V1 (P7 sh1 (x + 284) sz1 V1 q) := by rw [hq]; exact r_undo hM1 p7
  refine g_istore dL_law_2154 (Nat.le_of_ble_eq_true rfl) rfl ?_
  show G _ _ _ _ _ _ _ _ _ [_, _, _, _, _, _, _, _] _
  refine g_aload_n dL_law_2156 rfl ?_
  refine g_callV (M := (ML_law tb nm)) (pc := 2157) (Y := YX7_undo) sv_L_253 rfl yn_X7_undo 9 (by decide) rfl rfl dL_law_2157 hr (hM1.choose_spec.1.1) rfl rfl (lroom (a := 1) (b := 6) rfl hc hs) (Nat.le_of_ble_eq_true rfl) (fun _ _ _ _ h => Nat.le_of_eq h.2.1.symm) ?_ (fun _ _ _ _ h => by obtain ⟨-, -, w, -, -, -, h⟩ := h; exact nomatch h)
  rintro v sh2 sz2 V2 ⟨rfl, rfl, w2, hf2, hv2, hM2, hr2⟩
  cases hr2
  have hL2 : LI E sh2 sz2 V2 x q.2.2 := LI.next hL (Or.inl hE1) hC1 hM2 hf2 hI2
  refine g_istore dL_law_2160 (Nat.le_of_ble_eq_true rfl) rfl ?_
  show G _ _ _ _ _ _ _ _ _ [_, _, _, _, _, _, _, _] _
  refine g_aload_n dL_law_2162 rfl ?_
  refine g_callV (M := (ML_law tb nm)) (pc := 2163) (Y := YX7_thrown) sv_L_136 rfl yn_X7_thrown 9 (by decide) rfl rfl dL_law_2163 (r_thrown (E := E) hM2 (pR_ok (v := some (.int (nI q.1))))) (hM2.choose_spec.1.1) rfl rfl (lroom (a := 1) (b := 6) rfl hc hs) (Nat.le_of_ble_eq_true rfl) (fun _ _ _ _ h => Nat.le_of_eq h.2.2.1.symm) ?_ (fun _ _ _ _ h => nomatch h.1)
  rintro v sh3 sz3 V3 ⟨h3, rfl, rfl, rfl⟩
  cases h3
  refine g_iload dL_law_2166 rfl ?_
  refine g_icmp_eq (tgt := 2173) dL_law_2168 (by decide) (fun _ => ?_) (fun hq => absurd (rfl) hq)
  refine g_iload dL_law_2173 rfl ?_
  refine g_if_ne (tgt := 2190) dL_law_2175 (by decide) (fun bz => ?_) (fun bz => ?_)
  · refine g_jump (tgt := 2250) dL_law_2190 (by decide) ?_
    exact g_widen (cu + 2) (su + 12) (by show cu + 1 + 0 + 0 ≤ cu + 2; omega) (by show su + 6 + 0 + 0 ≤ su + 12; omega) (hk _ _ _ _ _ _ hL2)
  · have q0 := nI_z hb3 bz
    obtain ⟨w, hw2⟩ := hv
    have e2 := hv2 q0
    rw [hw2] at e2
    cases e2
    have e3 : V3 (x + 292) 0 = .long w2.toInt64 := by rw [hf2 _ (by omega)]; exact hv1 w2 q0 hw2
    refine g_aload_n dL_law_2178 rfl ?_
    refine g_iconst (v := nI 0) dL_law_2179 (by decide) ?_
    refine g_laload dL_law_2180 ho1 (vp_in_nI (by decide) (by decide)) (at_nI (by decide) e3) ?_
    refine g_iload dL_law_2181 rfl ?_
    refine g_i2l dL_law_2183 rfl ?_
    refine g_lcmp dL_law_2184 ?_
    rw [lcmp_z rfl]
    refine g_if_eq (tgt := 2190) dL_law_2185 (by decide) (fun _ => ?_) (fun hq => absurd (rfl) hq)
    refine g_jump (tgt := 2250) dL_law_2190 (by decide) ?_
    exact g_widen (cu + 2) (su + 12) (by show cu + 1 + 0 + 0 ≤ cu + 2; omega) (by show su + 6 + 0 + 0 ≤ su + 12; omega) (hk _ _ _ _ _ _ hL2)
theorem b_save  : (sp_save S).1 ≤ 3 := by
  unfold sp_save
  repeat' split
  all_goals first | exact Nat.zero_le _ | exact Nat.le_of_ble_eq_true rfl
set_option maxRecDepth 100000 in
theorem la_save (hL : LI E sh sz V x S) (hi : i + 5 ≤ E.2.2.2.2.2.2.1) (hc : cu + 2 ≤ 603072) (hs : su + 12 ≤ 7215210) (hk : LK E tb nm P x i cu su) : G E (ML_law tb nm) P sh sz V cu su 2193 [some (.ref E.2.2.2.2.2.1), some (.ref x), some (.ref (x + 284)), some (.ref (x + 292)), some (.ref (x + 293)), some (.int (nI i)), z6, z7] [] := by
  obtain ⟨hC, hI, ⟨th, hM⟩, hW, ho, hd, hsz, hlen⟩ := id hL
  obtain ⟨q, hq⟩ : ∃ q, q = sp_save S := ⟨_, rfl⟩
  have hI2 : InvS q.2.2 := by rw [hq]; exact s_save hI
  have hb3 : q.1 ≤ 3 := by rw [hq]; exact b_save
  have hv : q.1 = 0 ∧ ∃ w, q.2.1 = .int w := by rw [hq]; exact ⟨rfl, _, rfl⟩
  have hw : MC E YX6_save [.ref x] sh sz V (P6 x sh sz V [] q) := by rw [hq]; exact m_save hC hI.1.1 hW cp6
  refine g_aload_n dL_law_2193 rfl ?_
  refine g_callV (M := (ML_law tb nm)) (pc := 2194) (Y := YX6_save) sv_L_254 rfl yn_X6_save 8 (by decide) rfl rfl dL_law_2194 hw hC.1.1 rfl rfl (lroom (a := 0) (b := 0) rfl hc hs) (Nat.le_of_ble_eq_true rfl) (fun _ _ _ _ h => h.1.1) ?_ (fun _ _ _ _ h => absurd hv.1 h.2.2.1)
  rintro v sh1 sz1 V1 ⟨hE1, hC1, hq0, rfl⟩
  have hE1 := hE1.wo (o := x + 292)
  obtain ⟨w, hw2⟩ := hv.2
  rw [hw2]
  have hM1 : MS sh1 V1 (x + 284) S th := LI.mod hM hsz hE1 (by omega)
  have hr : MC E YX7_save [.ref (x + 284)] sh1 sz1 V1 (P7 sh1 (x + 284) sz1 V1 q) := by rw [hq]; exact r_save hM1 p7
  show G _ _ _ _ _ _ _ _ _ _ [.int w]
  refine g_aload_n dL_law_2197 rfl ?_
  refine g_callV (M := (ML_law tb nm)) (pc := 2198) (Y := YX7_save) sv_L_257 rfl yn_X7_save 9 (by decide) rfl rfl dL_law_2198 hr (hM1.choose_spec.1.1) rfl rfl (lroom (a := 0) (b := 0) rfl hc hs) (Nat.le_of_ble_eq_true rfl) (fun _ _ _ _ h => Nat.le_of_eq h.2.1.symm) ?_ (fun _ _ _ _ h => by obtain ⟨-, -, w, -, -, -, h⟩ := h; exact nomatch h)
  rintro v sh2 sz2 V2 ⟨rfl, rfl, w2, hf2, hv2, hM2, hr2⟩
  cases hr2
  have hL2 : LI E sh2 sz2 V2 x q.2.2 := LI.next hL (Or.inl hE1) hC1 hM2 hf2 hI2
  have e2 := hv2 hv.1
  rw [hw2] at e2
  cases e2
  show G _ _ _ _ _ _ _ _ _ _ [.int w, .int w]
  refine g_icmp_eq (tgt := 2250) dL_law_2201 (by decide) (fun _ => ?_) (fun hq => absurd (rfl) hq)
  exact g_widen (cu + 2) (su + 12) (by show cu + 0 + 0 ≤ cu + 2; omega) (by show su + 0 + 0 ≤ su + 12; omega) (hk _ _ _ _ _ _ hL2)
theorem b_restore  : (sp_restore S).1 ≤ 3 := by
  unfold sp_restore
  repeat' split
  all_goals first | exact Nat.zero_le _ | exact Nat.le_of_ble_eq_true rfl
set_option maxRecDepth 100000 in
theorem la_restore (hL : LI E sh sz V x S) (hi : i + 5 ≤ E.2.2.2.2.2.2.1) (hc : cu + 2 ≤ 603072) (hs : su + 12 ≤ 7215210) (hk : LK E tb nm P x i cu su) : G E (ML_law tb nm) P sh sz V cu su 2206 [some (.ref E.2.2.2.2.2.1), some (.ref x), some (.ref (x + 284)), some (.ref (x + 292)), some (.ref (x + 293)), some (.int (nI i)), z6, z7] [] := by
  obtain ⟨hC, hI, ⟨th, hM⟩, hW, ho, hd, hsz, hlen⟩ := id hL
  obtain ⟨q, hq⟩ : ∃ q, q = sp_restore S := ⟨_, rfl⟩
  have hI2 : InvS q.2.2 := by rw [hq]; exact s_restore hI
  have hb3 : q.1 ≤ 3 := by rw [hq]; exact b_restore
  have hv : ∃ w, q.2.1 = .int w := by rw [hq]; exact v_restore
  have hw : MCH E YL_restore [(0, 8, 11, 101)] [.ref x, .ref (x + 292)] sh sz V (WI x (x + 292) sh sz V q) := by rw [hq]; exact w_restore hC hI hW ho (by omega) (by omega)
  refine g_aload_n dL_law_2206 rfl ?_
  refine g_aload_n dL_law_2207 rfl ?_
  refine g_callSH (M := (ML_law tb nm)) (pc := 2208) (Y := YL_restore) (gIn_SH ml_L_258 wt_L_restore ini_L wc_L_restore) yn_L_restore dL_law_2208 hw rfl rfl (lroom (a := 0) (b := 0) rfl hc hs) (Nat.le_of_ble_eq_true rfl) (fun _ _ _ _ h => h.1.1) (fun _ _ _ _ h => nomatch h.2.2.2) ?_
  rintro v sh1 sz1 V1 ⟨hE1, hC1, hv1, hr⟩
  cases hr
  have hM1 : MS sh1 V1 (x + 284) S th := LI.mod hM hsz hE1 (by omega)
  have ho1 := ((hE1.2.1 (x + 292) (by omega)).1).trans ho
  have hr : MC E YX7_restore [.ref (x + 284)] sh1 sz1 V1 (P7 sh1 (x + 284) sz1 V1 q) := by rw [hq]; exact r_restore hM1 p7
  refine g_istore dL_law_2211 (Nat.le_of_ble_eq_true rfl) rfl ?_
  show G _ _ _ _ _ _ _ _ _ [_, _, _, _, _, _, _, _] _
  refine g_aload_n dL_law_2213 rfl ?_
  refine g_callV (M := (ML_law tb nm)) (pc := 2214) (Y := YX7_restore) sv_L_260 rfl yn_X7_restore 9 (by decide) rfl rfl dL_law_2214 hr (hM1.choose_spec.1.1) rfl rfl (lroom (a := 1) (b := 6) rfl hc hs) (Nat.le_of_ble_eq_true rfl) (fun _ _ _ _ h => Nat.le_of_eq h.2.1.symm) ?_ (fun _ _ _ _ h => by obtain ⟨-, -, w, -, -, -, h⟩ := h; exact nomatch h)
  rintro v sh2 sz2 V2 ⟨rfl, rfl, w2, hf2, hv2, hM2, hr2⟩
  cases hr2
  have hL2 : LI E sh2 sz2 V2 x q.2.2 := LI.next hL (Or.inl hE1) hC1 hM2 hf2 hI2
  refine g_istore dL_law_2217 (Nat.le_of_ble_eq_true rfl) rfl ?_
  show G _ _ _ _ _ _ _ _ _ [_, _, _, _, _, _, _, _] _
  refine g_aload_n dL_law_2219 rfl ?_
  refine g_callV (M := (ML_law tb nm)) (pc := 2220) (Y := YX7_thrown) sv_L_136 rfl yn_X7_thrown 9 (by decide) rfl rfl dL_law_2220 (r_thrown (E := E) hM2 (pR_ok (v := some (.int (nI q.1))))) (hM2.choose_spec.1.1) rfl rfl (lroom (a := 1) (b := 6) rfl hc hs) (Nat.le_of_ble_eq_true rfl) (fun _ _ _ _ h => Nat.le_of_eq h.2.2.1.symm) ?_ (fun _ _ _ _ h => nomatch h.1)
  rintro v sh3 sz3 V3 ⟨h3, rfl, rfl, rfl⟩
  cases h3
  refine g_iload dL_law_2223 rfl ?_
  refine g_icmp_eq (tgt := 2230) dL_law_2225 (by decide) (fun _ => ?_) (fun hq => absurd (rfl) hq)
  refine g_iload dL_law_2230 rfl ?_
  refine g_if_ne (tgt := 2247) dL_law_2232 (by decide) (fun bz => ?_) (fun bz => ?_)
  · refine g_jump (tgt := 2250) dL_law_2247 (by decide) ?_
    exact g_widen (cu + 2) (su + 12) (by show cu + 1 + 0 + 0 ≤ cu + 2; omega) (by show su + 6 + 0 + 0 ≤ su + 12; omega) (hk _ _ _ _ _ _ hL2)
  · have q0 := nI_z hb3 bz
    obtain ⟨w, hw2⟩ := hv
    have e2 := hv2 q0
    rw [hw2] at e2
    cases e2
    have e3 : V3 (x + 292) 0 = .long w2.toInt64 := by rw [hf2 _ (by omega)]; exact hv1 w2 q0 hw2
    refine g_aload_n dL_law_2235 rfl ?_
    refine g_iconst (v := nI 0) dL_law_2236 (by decide) ?_
    refine g_laload dL_law_2237 ho1 (vp_in_nI (by decide) (by decide)) (at_nI (by decide) e3) ?_
    refine g_iload dL_law_2238 rfl ?_
    refine g_i2l dL_law_2240 rfl ?_
    refine g_lcmp dL_law_2241 ?_
    rw [lcmp_z rfl]
    refine g_if_eq (tgt := 2247) dL_law_2242 (by decide) (fun _ => ?_) (fun hq => absurd (rfl) hq)
    refine g_jump (tgt := 2250) dL_law_2247 (by decide) ?_
    exact g_widen (cu + 2) (su + 12) (by show cu + 1 + 0 + 0 ≤ cu + 2; omega) (by show su + 6 + 0 + 0 ≤ su + 12; omega) (hk _ _ _ _ _ _ hL2)
end LAW1

