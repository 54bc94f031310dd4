/-! ===== what the features, the rules, the scores are: functions of the persistent cells alone ===== -/
def pers (a k : Nat) : Bool := (decide (61 ≤ a) && decide (a ≤ 66)) || decide (a = 68) || (decide (70 ≤ a) && decide (a ≤ 72)) || (decide (a = 57) && (decide (k = 5) || decide (k = 14) || (decide (15 ≤ k) && decide (k ≤ 18)) || decide (k = 20)))
/-- the persistent cells -/
def vw (σ : aSt) (a k : Nat) : Int32 := if pers a k = true then gI σ a k else 0
theorem vw_row {σ : aSt} {a : Nat} (k : Nat) (h : (61 ≤ a ∧ a ≤ 66) ∨ a = 68 ∨ (70 ≤ a ∧ a ≤ 72)) : vw σ a k = gI σ a k := by
  unfold vw
  rw [if_pos]
  unfold pers
  rcases h with ⟨h1, h2⟩ | h | ⟨h1, h2⟩
  · simp [h1, h2]
  · simp [h]
  · simp [h1, h2]
theorem vw_57 {σ : aSt} {k : Nat} (h : k = 5 ∨ k = 14 ∨ (15 ≤ k ∧ k ≤ 18) ∨ k = 20) : vw σ 57 k = gI σ 57 k := by
  unfold vw
  rw [if_pos]
  unfold pers
  rcases h with h | h | ⟨h1, h2⟩ | h
  · simp [h]
  · simp [h]
  · simp [h1, h2]
  · simp [h]
theorem vw_fr {C : Nat → Nat → Prop} {σ σ' : aSt} (f : Fr C σ σ') (hc : ∀ a k, C a k → pers a k = false) : vw σ' = vw σ := by
  funext a k
  unfold vw
  by_cases h : pers a k = true
  · rw [if_pos h, if_pos h]
    exact f.2.1 a k (fun z => by rw [hc a k z] at h; cases h)
  · rw [if_neg h, if_neg h]
def fSum (g : Nat → Int32) : Nat → Int32
  | 0 => 0
  | n + 1 => fSum g n + g n
def fOr (g : Nat → Int32) : Nat → Int32
  | 0 => 0
  | n + 1 => fOr g n ||| g n
section SPEC
variable (g : Nat → Nat → Int32)
/-- q is ahead of p in ORDER -/
def xBef (q p : Nat) : Bool := decide ((g 62 q).toInt < (g 62 p).toInt) || (decide ((g 62 q).toInt = (g 62 p).toInt) && decide ((g 61 q).toInt < (g 61 p).toInt))
def xAhd (p kn q : Nat) : Bool := xBef g q p && (decide (kn = 0) || decide (q < p))
def xLate (p q : Nat) : Bool := decide (g 62 p - g 57 15 < g 62 q)
def xPay (p q : Nat) : Bool := decide (g 63 q = g 63 p)
def xPye (p q : Nat) : Bool := decide (g 64 q = g 64 p)
def xBit (v : Int32) : Int32 := (1 : Int32) <<< (v &&& 31)
def xHas (m v : Int32) : Bool := decide ((m >>> (v &&& 31)) &&& 1 = 1)
def xCount (N p kn : Nat) : Int32 := fSum (fun q => if xAhd g p kn q && xLate g p q && xPay g p q then 1 else 0) N
def xAmts (N p kn : Nat) : Int32 := fSum (fun q => if xAhd g p kn q && xLate g p q && xPay g p q then g 65 q else 0) N
def xPyes (N p kn : Nat) : Int32 := xBit (g 64 p) ||| fOr (fun q => if xAhd g p kn q && xLate g p q && xPay g p q then xBit (g 64 q) else 0) N
def xSeen (N p kn : Nat) : Int32 := fSum (fun q => if xAhd g p kn q && xPay g p q && xPye g p q then 1 else 0) N
def xInto (N p kn : Nat) : Int32 := fSum (fun q => if xAhd g p kn q && xLate g p q && xPye g p q then 1 else 0) N
def xFadN : Nat → Int32 → Int32
  | 0, v => v
  | n + 1, v => xFadN n (v - v / 4)
def xFad (v gone : Int32) : Int32 := xFadN (min 40 (gone / g 57 16).toInt.toNat) v
def xOrd (i : Nat) : Nat := (g 68 i).toNatClampNeg
/-- the profile's fold, in ORDER: the value, and the last one taken in -/
def xPrf (p kn : Nat) : Nat → Int32 × Option Nat
  | 0 => (0, none)
  | i + 1 =>
    if xAhd g p kn (xOrd g i) && xPay g p (xOrd g i) then
      (match (xPrf p kn i).2 with
        | none => (xPrf p kn i).1 + (g 65 (xOrd g i) - (xPrf p kn i).1) / 4
        | some l => xFad g (xPrf p kn i).1 (g 62 (xOrd g i) - g 62 l) + (g 65 (xOrd g i) - xFad g (xPrf p kn i).1 (g 62 (xOrd g i) - g 62 l)) / 4, some (xOrd g i))
    else xPrf p kn i
def xProf (N p kn : Nat) : Int32 := match (xPrf g p kn N).2 with
  | none => (xPrf g p kn N).1
  | some l => xFad g (xPrf g p kn N).1 (g 62 p - g 62 l)
/-- who is met in so many links -/
def xEdge (p kn : Nat) (m : Int32) (q : Nat) : Int32 := if xAhd g p kn q then (if xHas m (g 63 q) then xBit (g 64 q) else 0) ||| (if xHas m (g 64 q) then xBit (g 63 q) else 0) else 0
def xMet (N p kn : Nat) : Nat → Int32
  | 0 => xBit (g 64 p)
  | k + 1 => xMet N p kn k ||| fOr (xEdge g p kn (xMet N p kn k)) N
def xFarF (N p kn : Nat) : Nat → Nat → Int32
  | 0, _ => 9
  | n + 1, k => if xMet g N p kn k &&& g 57 14 = 0 then xFarF N p kn n (k + 1) else nI k
def xFar (N p kn : Nat) : Int32 := xFarF g N p kn 9 0
def xBits (s : Int32) : Int32 := fSum (fun k => (s >>> (nI k &&& 31)) &&& 1) 20
def xFeat (N p kn : Nat) (am : Int32) (k : Nat) : Int32 :=
  if k = 0 then am else if k = 1 then g 66 p else if k = 2 then g 62 p - g 62 p / 24 * 24 else if k = 3 then xCount g N p kn else if k = 4 then xAmts g N p kn
  else if k = 5 then xBits (xPyes g N p kn) else if k = 6 then xSeen g N p kn else if k = 7 then am * 100 / (xProf g N p kn + 1) else if k = 8 then xFar g N p kn else xInto g N p kn
/-- a test of a rule on a row of features -/
def xTest (v : Nat → Int32) (at0 : Nat) : Bool := if g 72 (at0 + 1) = 60 then decide (v (g 72 at0).toNatClampNeg < g 72 (at0 + 2)) else if g 72 (at0 + 1) = 62 then decide (g 72 (at0 + 2) < v (g 72 at0).toNatClampNeg) else decide (v (g 72 at0).toNatClampNeg = g 72 (at0 + 2))
def xAll (v : Nat → Int32) (r : Nat) : Nat → Bool
  | 0 => true
  | n + 1 => xAll v r n && xTest g v (12 * r + 3 * n)
def xHold (R : Nat) (v : Nat → Int32) : Int32 := fOr (fun r => if xAll g v r (g 71 r).toNatClampNeg then xBit (nI r) else 0) R
def xSet (N R p kn : Nat) (am : Int32) : Int32 := xHold g R (xFeat g N p kn am)
def xWt (R : Nat) (s : Int32) : Int32 := fSum (fun r => if xHas s (nI r) then g 70 r else 0) R
def xAct (sc : Int32) : Int32 := if g 57 18 ≤ sc then 2 else if g 57 17 ≤ sc then 1 else 0
end SPEC
/-- what the class keeps of sets and scores is right, or unknown -/
def pCache (σ : aSt) (N R : Nat) : Prop := ∀ n kn, n < N → kn < 2 → gI σ 23 (120 * kn + n) = -1 ∨ (gI σ 23 (120 * kn + n) = xSet (vw σ) N R n kn (gI σ 65 n) ∧ gI σ 24 (120 * kn + n) = xWt (vw σ) R (xSet (vw σ) N R n kn (gI σ 65 n)))
theorem pCache.fr {C : Nat → Nat → Prop} {σ σ' : aSt} {N R : Nat} (h : pCache σ N R) (f : Fr C σ σ') (hc : ∀ a k, C a k → pers a k = false) (h1 : ∀ k, ¬ C 23 k) (h2 : ∀ k, ¬ C 24 k) : pCache σ' N R := by
  intro n kn hn hk
  have e : gI σ' 65 n = gI σ 65 n := f.2.1 65 n (fun z => by have := hc 65 n z; simp [pers] at this)
  rw [vw_fr f hc, f.2.1 23 _ (h1 _), f.2.1 24 _ (h2 _), e]
  exact h n kn hn hk
/-- the whole invariant -/
def Inv (σ : aSt) : Prop := pSheets σ ∧ pMark σ ∧ pTape σ ∧ pSmall σ ∧ pTrace σ ∧ ∃ N b R, ((b = 12 ∧ gR σ 11 0 = some 12 ∧ gR σ 0 8 = some 34) ∨ (b = 34 ∧ gR σ 11 0 = some 34 ∧ gR σ 0 8 = some 12)) ∧ pPay σ N ∧ pBook σ b R ∧ pCache σ N R
/-- cells that nothing rests on between calls -/
def scr (a k : Nat) : Prop := (6 ≤ a ∧ a ≤ 8) ∨ a = 10 ∨ (19 ≤ a ∧ a ≤ 22) ∨ a = 25 ∨ (27 ≤ a ∧ a ≤ 31) ∨ a = 69 ∨ (73 ≤ a ∧ a ≤ 76) ∨ a = 78 ∨ a = 79 ∨ a = 81 ∨ a = 82 ∨ (a = 57 ∧ (k = 0 ∨ k = 24 ∨ (32 ≤ k ∧ k ≤ 38) ∨ k = 40)) ∨ (a = 11 ∧ k = 2) ∨ (a = 26 ∧ 2 ≤ k) ∨ (a = 5 ∧ k = 5) ∨ (a = 32 ∧ k ≠ 1)
theorem scr_pers {a k : Nat} (h : scr a k) : pers a k = false := by
  unfold pers
  unfold scr at h
  simp only [Bool.or_eq_false_iff, Bool.and_eq_false_iff, decide_eq_false_iff_not]
  omega
theorem Inv.fr {σ σ' : aSt} (h : Inv σ) (f : Fr scr σ σ') : Inv σ' := by
  obtain ⟨h1, h2, h3, h4, h5, N, b, R, h6, h7, h8, h9⟩ := h
  have nb : ∀ a k, scr a k → ¬ cBook b a k := by
    intro a k hs
    unfold scr at hs
    unfold cBook
    rcases h6 with ⟨q, -, -⟩ | ⟨q, -, -⟩ <;> omega
  have np : ∀ a k, scr a k → ¬ cPay a k := by
    intro a k hs
    unfold scr at hs
    unfold cPay
    omega
  have ns : ∀ {a k : Nat}, ¬ scr a k → gR σ' a k = gR σ a k := fun q => f.2.2 _ _ q
  refine ⟨h1.fr f (fun a k hs => by unfold scr at hs; omega), h2.fr f (by unfold scr; omega) (by unfold scr; omega), h3.fr f (by unfold scr; omega) (by unfold scr; omega) (fun k => by unfold scr; omega) (fun k => by unfold scr; omega), h4.fr f (by unfold scr; omega) (by unfold scr; omega) (by unfold scr; omega) (by unfold scr; omega) (by unfold scr; omega) (by unfold scr; omega) (by unfold scr; omega) (by unfold scr; omega), h5.fr f (by unfold scr; omega) (by unfold scr; omega) (fun k => by unfold scr; omega) (fun k => by unfold scr; omega), N, b, R, ?_, h7.fr f np, h8.fr f nb, h9.fr f (fun a k hs => scr_pers hs) (fun k => by unfold scr; omega) (fun k => by unfold scr; omega)⟩
  rw [f.2.2 11 0 (by unfold scr; omega), f.2.2 0 8 (by unfold scr; omega)]
  exact h6
