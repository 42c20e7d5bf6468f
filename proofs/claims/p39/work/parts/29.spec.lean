/-! WHAT EACH CALL ANSWERS, and what it leaves: (which exception, 0 if none; the answer; the state behind it). Class and reference are both held to it. -/
section SPEC
/-- (now, snapshot, history, how many of it, text, its length, error position, reason and detail) -/
abbrev St : Type := Fl × Option Fl × (Nat → Fl) × Nat × (Nat → Int32) × Nat × Int32 × (Int32 × Int32)
abbrev Sp : Type := Nat × Value × St
/-- a change -/
def push (S : St) (g : Fl) : St := (g, S.2.1, pH S.2.2.1 S.2.2.2.1 S.1, pC S.2.2.2.1, S.2.2.2.2)
def refu (S : St) (z : Int32 × Int32) : St := (S.1, S.2.1, S.2.2.1, S.2.2.2.1, S.2.2.2.2.1, S.2.2.2.2.2.1, S.2.2.2.2.2.2.1, z)
def no (k : Nat) (S : St) : Sp := (k, .int (nI 0), S)
def sp_set (S : St) (w v : Int32) : Sp := if isSV w v then (0, .int (S.1 (5 + w.toNatClampNeg)), push S (upd S.1 (5 + w.toNatClampNeg) v)) else no 1 S
def sp_setting (S : St) (w : Int32) : Sp := if isS w then (0, .int (S.1 (5 + w.toNatClampNeg)), S) else no 1 S
def sp_drill (S : St) (a : Int32) : Sp := if isM a then (0, .int (S.1 (oM a.toNatClampNeg 0)), push S (drF S.1 a.toNatClampNeg)) else no 1 S
def sp_drilled (S : St) (a : Int32) : Sp := if isM a then (if S.1 (oM a.toNatClampNeg 4) < 0 then no 2 S else (0, .int (S.1 (oM a.toNatClampNeg 3)), S)) else no 1 S
noncomputable def mileV (f : Fl) (j : Nat) (w : Int32) : Int32 := if w = nI 0 then f (oM j 1) else if w = nI 1 then f (oM j 2) else if w = nI 2 then f (oM j 4) else if w = nI 3 then bgd f j else f (oM j 5)
noncomputable def sp_mileOf (S : St) (a w : Int32) : Sp := if isM a then (if 0 ≤ w ∧ w < nI 5 then (0, .int (mileV S.1 a.toNatClampNeg w), S) else no 2 S) else no 1 S
def sp_ice (S : St) (a : Int32) : Sp := if isM a then (0, .float (S.1 (oM a.toNatClampNeg 0)).toUInt32, S) else no 1 S
noncomputable def sp_bears (S : St) (a : Int32) : Sp := if isM a then (0, .int (bd S.1 a.toNatClampNeg).toInt32, S) else no 1 S
noncomputable def signV (f : Fl) (j : Nat) : Int32 := @ite _ (tkn f (nI j) (-1)) (Classical.propDecidable _) (nI 84) (@ite _ (gdF f j) (Classical.propDecidable _) (nI 48 + f (oM j 1)) (nI 63))
noncomputable def sp_sign (S : St) (a : Int32) : Sp := if isM a then (0, .int (signV S.1 a.toNatClampNeg), S) else no 1 S
noncomputable def wkst (f : Fl) : Nat → Nat
  | 0 => 0
  | k + 1 => if Op.cmpValue (FP.fcmp (bd f (k + 1)) (bd f (wkst f k))) .g < 0 then k + 1 else wkst f k
noncomputable def sp_weakest (S : St) : Sp := (0, .int (nI (wkst S.1 11)), S)
/-- a truck has come to place k of the rows -/
def trF (f : Fl) (k : Nat) (w ax : Int32) : Fl := upd (upd (upd f (oR k) w) (oR k + 1) ax) 3 (f 3 + w)
abbrev isTk (kd w ax : Int32) : Prop := (0 ≤ kd ∧ kd ≤ nI 1) ∧ (nI 5 ≤ w ∧ w ≤ nI 60) ∧ (nI 2 ≤ ax ∧ ax ≤ nI 6)
abbrev isR (r : Int32) : Prop := 0 ≤ r ∧ r < nI 2
def sp_truck (S : St) (kd w ax r : Int32) : Sp :=
  if isR r then (if isTk kd w ax then (if freeF S.1 r.toNatClampNeg < 0 then (3, .int (nI 0), refu S (nI 2, r)) else if kd = r then (0, .int (freeF S.1 r.toNatClampNeg), push S (trF S.1 (r.toNatClampNeg * 5 + (freeF S.1 r.toNatClampNeg).toNatClampNeg) w ax)) else (3, .int (nI 0), refu S (nI 3, r))) else no 2 S) else no 1 S
def sp_inRow (S : St) (r p w : Int32) : Sp :=
  if isPl r p then (if S.1 (oR (r.toNatClampNeg * 5 + p.toNatClampNeg)) = 0 then no 2 S else if 0 ≤ w ∧ w ≤ nI 1 then (0, .int (if w = nI 0 then S.1 (oR (r.toNatClampNeg * 5 + p.toNatClampNeg)) else S.1 (oR (r.toNatClampNeg * 5 + p.toNatClampNeg) + 1)), S) else no 3 S) else no 1 S
/-- a convoy added -/
def cvF (f : Fl) (g : Int32) : Fl := fun k => if 100 + 16 * cnt f ≤ k ∧ k < 116 + 16 * cnt f then (if k = oC (cnt f) 0 then g else if k = oC (cnt f) 2 then -1 else nI 0) else if k = 1 then nI (cnt f + 1) else f k
def sp_convoy (S : St) (g : Int32) : Sp := if nI 1 ≤ g ∧ g ≤ nI 3 then (if cnt S.1 < 4 then (0, .int (nI (cnt S.1)), push S (cvF S.1 g)) else (2, .int (nI 0), refu S (nI 1, nI 4))) else no 1 S
noncomputable def sp_join (S : St) (c r p : Int32) : Sp :=
  if isC S.1 c ∧ isPl r p then (if S.1 (oR (r.toNatClampNeg * 5 + p.toNatClampNeg)) = 0 then no 2 S else if joinO S.1 c.toNatClampNeg = (nI 0, nI 0) then (0, .int (nI (ncv S.1 c.toNatClampNeg + 1)), push S (jnF S.1 c.toNatClampNeg (r.toNatClampNeg * 5 + p.toNatClampNeg))) else (3, .int (nI 0), refu S (joinO S.1 c.toNatClampNeg))) else no 1 S
noncomputable def sp_start (S : St) (c : Int32) : Sp := if isC S.1 c then (if startO S.1 c.toNatClampNeg = (nI 0, nI 0) then (0, .int (nI (ncv S.1 c.toNatClampNeg)), push S (startF S.1 c.toNatClampNeg)) else (2, .int (nI 0), refu S (startO S.1 c.toNatClampNeg))) else no 1 S
/-- how many trucks of convoy c are at miles; how many have arrived -/
def onR (f : Fl) (c : Nat) : Nat := fb_ct (fun k => decide (isM (mt (f (oC c 2)) (f (oC c 0)) k))) (ncv f c)
def arR (f : Fl) (c : Nat) : Nat := fb_ct (fun k => decide (nI 12 ≤ mt (f (oC c 2)) (f (oC c 0)) k)) (ncv f c)
noncomputable def sp_roll (S : St) (c : Int32) : Sp := if isC S.1 c then (if rollO S.1 c.toNatClampNeg = (nI 0, nI 0) then (0, .int (nI (onR (advF S.1 c.toNatClampNeg) c.toNatClampNeg)), push S (advF S.1 c.toNatClampNeg)) else (2, .int (nI 0), refu S (rollO S.1 c.toNatClampNeg))) else no 1 S
noncomputable def sp_why (S : St) (c d : Int32) : Sp := if isC S.1 c then (0, .int (if d = 0 then (rollO S.1 c.toNatClampNeg).1 else (rollO S.1 c.toNatClampNeg).2), S) else no 1 S
def cvV (f : Fl) (c : Nat) (w : Int32) : Int32 := if w = nI 0 then f (oC c 0) else if w = nI 1 then f (oC c 1) else if w = nI 2 then f (oC c 2) else if w = nI 3 then nI (onR f c) else if w = nI 4 then nI (arR f c) else bi (dnF f c)
def sp_convoyOf (S : St) (c w : Int32) : Sp := if isC S.1 c then (if 0 ≤ w ∧ w < nI 6 then (0, .int (cvV S.1 c.toNatClampNeg w), S) else no 2 S) else no 1 S
abbrev isT (f : Fl) (c p : Int32) : Prop := isC f c ∧ (0 ≤ p ∧ p < nI (ncv f c.toNatClampNeg))
def tkV (f : Fl) (c p : Nat) (w : Int32) : Int32 := if w = nI 0 then (tkF f c p).1 else if w = nI 1 then (tkF f c p).2.1 else if w = nI 2 then (tkF f c p).2.2 else mt (f (oC c 2)) (f (oC c 0)) p
def sp_truckOf (S : St) (c p w : Int32) : Sp := if isT S.1 c p then (if 0 ≤ w ∧ w < nI 4 then (0, .int (tkV S.1 c.toNatClampNeg p.toNatClampNeg w), S) else no 2 S) else no 1 S
def sp_load (S : St) (c p : Int32) : Sp := if isT S.1 c p then (0, .float (bud (tkF S.1 c.toNatClampNeg p.toNatClampNeg)), S) else no 1 S
/-- the first convoy but w with a truck at mile m, and its place, in one number; -1 if there is none -/
noncomputable def whoV (f : Fl) (m w : Int32) : Int32 := if fa_first (fun c => cb (nI c ≠ w ∧ 0 ≤ paF f c m)) (cnt f) < cnt f then nI 10 * nI (fa_first (fun c => cb (nI c ≠ w ∧ 0 ≤ paF f c m)) (cnt f)) + paF f (fa_first (fun c => cb (nI c ≠ w ∧ 0 ≤ paF f c m)) (cnt f)) m else -1
noncomputable def sp_at (S : St) (a : Int32) : Sp := if isM a then (@ite _ (tkn S.1 a (-1)) (Classical.propDecidable _) (0, .int (whoV S.1 a (-1)), S) (no 2 S)) else no 1 S
/-- d rolls of convoy c -/
def rollS (f : Fl) (c : Nat) : Nat → Fl
  | 0 => f
  | d + 1 => advF (rollS f c d) c
/-- how often convoy c could roll -/
noncomputable def rollN (f : Fl) (c : Nat) : Nat := fa_first (fun d => cb (rollO (rollS f c d) c ≠ (nI 0, nI 0))) 60
noncomputable def sp_rolls (S : St) (c : Int32) : Sp := if isC S.1 c then (0, .int (nI (rollN S.1 c.toNatClampNeg)), S) else no 1 S
/-- the ice behind n days -/
def iceN (x : UInt32) (t : Int32) : Nat → UInt32
  | 0 => x
  | n + 1 => niF (iceN x t n) t
def sp_iceIn (S : St) (a d : Int32) : Sp := if isM a then (if 0 ≤ d ∧ d ≤ nI 60 then (0, .int (iceN (S.1 (oM a.toNatClampNeg 0)).toUInt32 (S.1 5) d.toNatClampNeg).toInt32, S) else no 2 S) else no 1 S
/-- ice that bears some tonnes, without cracks and limit -/
def brg (x : UInt32) (t : Int32) : Prop := 0 ≤ Op.cmpValue (FP.fcmp (FP.fmul (FP.fmul x x) 1025758986) (FP.i2f t)) .l
noncomputable def brN (x : UInt32) (t tn : Int32) : Nat := fa_first (fun d => cb (brg (iceN x t d) tn)) 91
noncomputable def sp_bearsIn (S : St) (a t : Int32) : Sp := if isM a then (if nI 1 ≤ t ∧ t ≤ nI 99 then (if brN (S.1 (oM a.toNatClampNeg 0)).toUInt32 (S.1 5) t < 91 then (0, .int (nI (brN (S.1 (oM a.toNatClampNeg 0)).toUInt32 (S.1 5) t)), S) else no 3 S) else no 2 S) else no 1 S
noncomputable def goodN (f : Fl) : Int32 := sI (fun j => bgd f j) 12
noncomputable def sp_pass (S : St) (d : Int32) : Sp := if isDay d then (0, .int (goodN S.1 - goodN (passF S.1 d.toNatClampNeg)), push S (passF S.1 d.toNatClampNeg)) else no 1 S
def sp_append (S : St) (c : Int32) : Sp := if S.2.2.2.2.2.1 < 60 then (0, .int (nI (S.2.2.2.2.2.1 + 1)), (S.1, S.2.1, S.2.2.1, S.2.2.2.1, upd S.2.2.2.2.1 S.2.2.2.2.2.1 c, S.2.2.2.2.2.1 + 1, S.2.2.2.2.2.2)) else no 1 S
/-- the last order of the text -/
noncomputable def kkF (tx : Nat → Int32) (n : Nat) : Nat := fa_first (fun k => cb (¬ more tx n k)) 30
/-- order k; the road behind k orders; the first order that cannot be carried out; its reason -/
def ordK (tx : Nat → Int32) (n k : Nat) : Int32 × Int32 × Int32 × Int32 := (oK tx n (pK tx n k)).2.2
def rowsK (f : Fl) (tx : Nat → Int32) (n : Nat) : Nat → Fl
  | 0 => f
  | k + 1 => exF (rowsK f tx n k) (ordK tx n k)
noncomputable def badK (f : Fl) (tx : Nat → Int32) (n : Nat) : Nat := fa_first (fun k => cb (exO (rowsK f tx n k) (ordK tx n k) ≠ nI 0)) (kkF tx n + 1)
noncomputable def exZ (f : Fl) (q : Int32 × Int32 × Int32 × Int32) : Int32 × Int32 := if q.1 = nI 115 then startO f q.2.1.toNatClampNeg else if q.1 = nI 114 then rollO f q.2.1.toNatClampNeg else joinO f q.2.1.toNatClampNeg
/-- behind the reading of the text, whatever becomes of it -/
noncomputable def rdS (S : St) : St := (S.1, S.2.1, S.2.2.1, S.2.2.2.1, S.2.2.2.2.1, 0, errI S.2.2.2.2.1 S.2.2.2.2.2.1 (kkF S.2.2.2.2.1 S.2.2.2.2.2.1), S.2.2.2.2.2.2.2)
noncomputable def sp_read (S : St) : Sp :=
  @ite _ (fine S.2.2.2.2.1 S.2.2.2.2.2.1 (kkF S.2.2.2.2.1 S.2.2.2.2.2.1)) (Classical.propDecidable _)
    (if badK S.1 S.2.2.2.2.1 S.2.2.2.2.2.1 < kkF S.2.2.2.2.1 S.2.2.2.2.2.1 + 1 then
      (if exO (rowsK S.1 S.2.2.2.2.1 S.2.2.2.2.2.1 (badK S.1 S.2.2.2.2.1 S.2.2.2.2.2.1)) (ordK S.2.2.2.2.1 S.2.2.2.2.2.1 (badK S.1 S.2.2.2.2.1 S.2.2.2.2.2.1)) < 0 then no 1 (rdS S)
       else (2, .int (nI 0), refu (rdS S) (exZ (rowsK S.1 S.2.2.2.2.1 S.2.2.2.2.2.1 (badK S.1 S.2.2.2.2.1 S.2.2.2.2.2.1)) (ordK S.2.2.2.2.1 S.2.2.2.2.2.1 (badK S.1 S.2.2.2.2.1 S.2.2.2.2.2.1)))))
     else (0, .int (nI (kkF S.2.2.2.2.1 S.2.2.2.2.2.1 + 1)), push (rdS S) (rowsK S.1 S.2.2.2.2.1 S.2.2.2.2.2.1 (kkF S.2.2.2.2.1 S.2.2.2.2.2.1 + 1))))
    (no 1 (rdS S))
def sp_errorPosition (S : St) : Sp := (0, .int S.2.2.2.2.2.2.1, S)
def sp_refusal (S : St) (d : Int32) : Sp := if S.2.2.2.2.2.2.2.1 = nI 0 then no 1 S else (0, .int (if d = 0 then S.2.2.2.2.2.2.2.1 else S.2.2.2.2.2.2.2.2), S)
noncomputable def accV (S : St) (w : Int32) : Int32 :=
  if w = nI 0 then S.1 0 else if w = nI 1 then sI (fun k => bi (¬ S.1 (oR k) = 0)) 10 else if w = nI 2 then S.1 1
  else if w = nI 3 then sI (fun c => bi (0 ≤ S.1 (oC c 2))) (cnt S.1) - sI (fun c => bi (dnF S.1 c)) (cnt S.1) else if w = nI 4 then sI (fun c => bi (dnF S.1 c)) (cnt S.1)
  else if w = nI 5 then sI (fun c => nI (onR S.1 c)) (cnt S.1) else if w = nI 6 then sI (fun c => nI (arR S.1 c)) (cnt S.1) else if w = nI 7 then S.1 4 else if w = nI 8 then S.1 3 - S.1 4
  else if w = nI 9 then sI (fun j => S.1 (oM j 1)) 12 else if w = nI 10 then goodN S.1 else if w = nI 11 then S.1 2 else if w = nI 12 then S.1 3 else if w = nI 13 then nI S.2.2.2.2.2.1 else nI S.2.2.2.1
noncomputable def sp_account (S : St) (w : Int32) : Sp := if 0 ≤ w ∧ w < nI 15 then (0, .int (accV S w), S) else no 1 S
def sp_isWell (S : St) : Sp := (0, .int (nI 1), S)
def dsum (f : Fl) : Nat → UInt64
  | 0 => FP.dconst0
  | j + 1 => FP.dadd (dsum f j) (FP.f2d (f (oM j 0)).toUInt32)
def meanD (f : Fl) : UInt64 := FP.ddiv (dsum f 12) 4622945017495814144
def sp_meanBits (S : St) : Sp := (0, .long (meanD S.1).toInt64, S)
def sp_share (S : St) : Sp := if S.1 3 = 0 then no 1 S else (0, .float (FP.fdiv (FP.i2f (S.1 4)) (FP.i2f (S.1 3))), S)
def sp_undo (S : St) : Sp := if S.2.2.2.1 = 0 then no 1 S else (0, .int (nI (S.2.2.2.1 - 1)), (S.2.2.1 (S.2.2.2.1 - 1), S.2.1, S.2.2.1, S.2.2.2.1 - 1, S.2.2.2.2))
def sp_save (S : St) : Sp := (0, .int (S.1 1), (S.1, some S.1, S.2.2))
def sp_restore (S : St) : Sp := match S.2.1 with
  | none => no 1 S
  | some g => (0, .int (g 1), (g, some g, S.2.2.1, 0, S.2.2.2.2))
/-! the class' picture of a state, and what a call of it leaves -/
def CS (sh : Sh) (V : Vl) (x : Nat) (S : St) : Prop := CAt sh V x S.1 S.2.1 S.2.2.1 S.2.2.2.1 S.2.2.2.2.1 S.2.2.2.2.2.1 S.2.2.2.2.2.2.1 S.2.2.2.2.2.2.2
/-- what waits: in rows, and in convoys if it has not arrived -/
def waitT (f : Fl) : Int32 := sI (fun k => f (oR k)) 10 + sI (fun c => sI (fun k => if k < ncv f c then (if nI 12 ≤ mt (f (oC c 2)) (f (oC c 0)) k then nI 0 else (tkF f c k).2.1) else nI 0) 4) (cnt f)
/-- what holds of each road that a run comes to -/
def InvA (f : Fl) : Prop := InvB f ∧ One f ∧ f 3 = f 4 + waitT f
def InvS (S : St) : Prop := InvA S.1 ∧ (∀ g, S.2.1 = some g → InvA g) ∧ (∀ i, i < S.2.2.2.1 → InvA (S.2.2.1 i)) ∧ S.2.2.2.1 ≤ 8 ∧ codeOk S.2.2.2.2.2.2.2 ∧ S.2.2.2.2.2.1 ≤ 60
/-- what a call of the class may change: its own cells, and new ones -/
def Ext (x : Nat) (sh : Sh) (sz : Nat) (V : Vl) (sh' : Sh) (sz' : Nat) (V' : Vl) : Prop := sz ≤ sz' ∧ (∀ a, a < sz → sh' a = sh a ∧ (¬ (x ≤ a ∧ a < x + 284) → V' a = V a)) ∧ Wf sh' sz'
theorem Ext.grow {x sz sz' : Nat} {sh : Sh} {V : Vl} (hW : Wf sh sz) (h : sz ≤ sz') : Ext x sh sz V sh sz' V := ⟨h, fun _ _ => ⟨rfl, fun _ => rfl⟩, fun a ha => hW a (by omega)⟩
/-- .. and how it ends -/
def CP (x : Nat) (sh : Sh) (sz : Nat) (V : Vl) (exs : List String) (q : Sp) (P : gP) : Prop :=
  ∀ sh' sz' V', Ext x sh sz V sh' sz' V' → CS sh' V' x q.2.2 → (q.1 = 0 → P (.inl (some q.2.1)) sh' sz' V') ∧ (∀ C, q.1 ≠ 0 → exs[q.1 - 1]? = some C → P (.inr C) sh' sz' V')
def xIO : String := "java/lang/IndexOutOfBoundsException"
def xIA : String := "java/lang/IllegalArgumentException"
def xUO : String := "java/lang/UnsupportedOperationException"
def xIS : String := "java/lang/IllegalStateException"
def xAR : String := "java/lang/ArithmeticException"
section CPS
variable {P : gP} {x sz : Nat} {sh : Sh} {V V' : Vl} {S S' : St} {exs : List String} {k : Nat} {v : Value}
theorem CP.ret (h : CP x sh sz V exs (0, v, S) P) (hW : Wf sh sz) (hC : CS sh V x S) : P (.inl (some v)) sh sz V := (h sh sz V (Ext.grow hW (Nat.le_refl _)) hC).1 rfl
theorem CP.thr (h : CP x sh sz V exs (k + 1, v, S) P) (hW : Wf sh sz) (hC : CS sh V x S) {C : String} (he : exs[k]? = some C) : ∀ sz', sz ≤ sz' → P (.inr C) sh sz' V := fun sz' hz => (h sh sz' V (Ext.grow hW hz) hC).2 C (Nat.succ_ne_zero k) he
theorem CP.retW (h : CP x sh sz V exs (0, v, S') P) (hW : Wf sh sz) (hF : ∀ a, ¬ (x ≤ a ∧ a < x + 284) → V' a = V a) (hC : CS sh V' x S') : P (.inl (some v)) sh sz V' := (h sh sz V' ⟨Nat.le_refl _, fun a _ => ⟨rfl, hF a⟩, hW⟩ hC).1 rfl
theorem CP.thrW (h : CP x sh sz V exs (k + 1, v, S') P) (hW : Wf sh sz) (hF : ∀ a, ¬ (x ≤ a ∧ a < x + 284) → V' a = V a) (hC : CS sh V' x S') {C : String} (he : exs[k]? = some C) : ∀ sz', sz ≤ sz' → P (.inr C) sh sz' V' := fun sz' hz => (h sh sz' V' ⟨hz, fun a _ => ⟨rfl, hF a⟩, fun a ha => hW a (by omega)⟩ hC).2 C (Nat.succ_ne_zero k) he
end CPS
end SPEC

