/-! ===== links: who is met, by links or by payments ===== -/
theorem fOr_zero {f : Nat → Int32} : ∀ {n : Nat}, (∀ i, i < n → f i = 0) → fOr f n = 0
  | 0, _ => rfl
  | n + 1, h => by
    rw [fOr_s, fOr_zero (fun i hi => h i (by omega)), h n (by omega)]
    rfl
theorem fOr_or {f h : Nat → Int32} : ∀ {n : Nat}, fOr (fun i => f i ||| h i) n = fOr f n ||| fOr h n
  | 0 => (Int32.or_zero (a := 0)).symm
  | n + 1 => by
    rw [fOr_s, fOr_s, fOr_s, fOr_or, Int32.or_assoc, Int32.or_assoc]
    congr 1
    rw [← Int32.or_assoc, ← Int32.or_assoc, Int32.or_comm (f n)]
theorem fOr_swap {F : Nat → Nat → Int32} {m : Nat} : ∀ {n : Nat}, fOr (fun w => fOr (F w) m) n = fOr (fun q => fOr (fun w => F w q) n) m
  | 0 => (fOr_zero (fun _ _ => rfl)).symm
  | n + 1 => by
    rw [fOr_s, fOr_swap]
    show _ = fOr (fun q => fOr (fun w => F w q) n ||| F n q) m
    rw [fOr_or]
theorem fOr_one {f : Nat → Int32} {u : Nat} : ∀ {n : Nat}, u < n → (∀ w, w < n → w ≠ u → f w = 0) → fOr f n = f u
  | 0, h, _ => absurd h (Nat.not_lt_zero _)
  | n + 1, h, hz => by
    rw [fOr_s]
    by_cases c : n = u
    · subst c
      rw [fOr_zero (fun i hi => hz i (by omega) (by omega)), Int32.zero_or]
    · rw [fOr_one (by omega) (fun w h1 h2 => hz w (by omega) h2), hz n (by omega) c, Int32.or_zero]
section GC
variable {g : Nat → Nat → Int32} {N R b : Nat} {τ : aSt}
theorem s_linked (m : Int32) : f_X7_linkedTo m τ = some (fOr (fun w => if xHas m (nI w) then gI τ 22 w else 0) 20, τ) := by
  have key : ∀ (f k : Nat), k ≤ 20 → 20 < k + f → f_X7_linkedTo_4 f m (fOr (fun w => if xHas m (nI w) then gI τ 22 w else 0) k) (nI k) τ = some (fOr (fun w => if xHas m (nI w) then gI τ 22 w else 0) 20, τ) := by
    intro f
    induction f with
    | zero => intro k h1 h2; omega
    | succ f ih =>
      intro k h1 h2
      show f_X7_linkedTo_4_b (f_X7_linkedTo_4 f) m _ (nI k) τ = _
      unfold f_X7_linkedTo_4_b f_X7_linkedTo_28
      by_cases hk : k = 20
      · subst hk
        rw [if_pos (show (20 : Int32) ≤ nI 20 from Int32.le_refl _)]
      · have r := ih (k + 1) (by omega) (by omega)
        rw [fOr_s] at r
        rw [if_neg (fun q => by rw [show (20 : Int32) = nI 20 from rfl, nI_leI (by omega) (by omega)] at q; omega), nI_1]
        by_cases c : (m >>> (nI k &&& 31)) &&& 1 = 1
        · have e : xHas m (nI k) = true := decide_eq_true c
          rw [e, if_pos rfl] at r
          rw [if_pos c, if_pos (ix_in (by omega) (by omega)), ix_cl (by omega)]
          exact r
        · have e : xHas m (nI k) = false := decide_eq_false c
          rw [e, if_neg (by decide), Int32.or_zero] at r
          rw [if_neg c]
          exact r
  exact key aN 0 (by omega) (by show 20 < 0 + 1000000; omega)
/-- met by links: met by payments -/
theorem lk_edge (hw : gW g N R) {p kn : Nat} (m : Int32) : fOr (fun w => if xHas m (nI w) then fOr (fun q => if xAhd g p kn q then tL g w q else 0) N else 0) 20 = fOr (xEdge g p kn m) N := by
  have h1 : fOr (fun w => if xHas m (nI w) then fOr (fun q => if xAhd g p kn q then tL g w q else 0) N else 0) 20 = fOr (fun w => fOr (fun q => if xHas m (nI w) then (if xAhd g p kn q then tL g w q else 0) else 0) N) 20 := by
    apply fOr_congr
    intro w _
    cases xHas m (nI w) with
    | true => rfl
    | false =>
      rw [if_neg (by decide)]
      exact (fOr_zero (fun _ _ => rfl)).symm
  rw [h1, fOr_swap]
  apply fOr_congr
  intro q hq
  obtain ⟨u, hu, eu⟩ := hw.r63 hq
  obtain ⟨v, hv, ev⟩ := hw.r64 hq
  unfold xEdge
  cases xAhd g p kn q with
  | false =>
    rw [if_neg (by decide)]
    apply fOr_zero
    intro w _
    cases xHas m (nI w) <;> rfl
  | true =>
    rw [if_pos rfl]
    have h2 : fOr (fun w => if xHas m (nI w) then (if true = true then tL g w q else 0) else 0) 20 = fOr (fun w => (if xHas m (nI w) then (if g 63 q = nI w then xBit (g 64 q) else 0) else 0) ||| (if xHas m (nI w) then (if g 64 q = nI w then xBit (g 63 q) else 0) else 0)) 20 := by
      apply fOr_congr
      intro w _
      cases xHas m (nI w) with
      | true => rfl
      | false => exact (Int32.or_zero (a := 0)).symm
    rw [h2, fOr_or, fOr_one (u := u) hu (fun w h3 h4 => ?_), fOr_one (u := v) hv (fun w h3 h4 => ?_)]
    · rw [if_pos eu, if_pos ev, eu, ev]
    · have z : ¬ g 64 q = nI w := fun z => h4 (nI_inj (by omega) (by omega) (ev ▸ z)).symm
      rw [if_neg z]
      cases xHas m (nI w) <;> rfl
    · have z : ¬ g 63 q = nI w := fun z => h4 (nI_inj (by omega) (by omega) (eu ▸ z)).symm
      rw [if_neg z]
      cases xHas m (nI w) <;> rfl
theorem s_farC (hw : gW g N R) {p kn : Nat} (hl : ∀ w, w < 20 → gI τ 22 w = fOr (fun q => if xAhd g p kn q then tL g w q else 0) N) : f_X7_far (g 64 p) (g 57 14) τ = some (xFar g N p kn, τ) := by
  have outer : ∀ (f n k : Nat), n + k = 9 → n < f → f_X7_far_7 f (g 57 14) (xMet g N p kn k) (nI k) τ = some (xFarF g N p kn n k, τ) := by
    intro f
    induction f with
    | zero => intro n k h1 h2; omega
    | succ f ih =>
      intro n k h1 h2
      show f_X7_far_7_b (f_X7_far_7 f) (g 57 14) _ (nI k) τ = _
      unfold f_X7_far_7_b
      cases n with
      | zero =>
        have : k = 9 := by omega
        subst this
        rw [if_pos (by decide)]
        rfl
      | succ n =>
        rw [if_neg (fun q => by rw [show (8 : Int32) = nI 8 from rfl, nI_ltI (by omega) (by omega)] at q; omega)]
        unfold xFarF
        by_cases c : xMet g N p kn k &&& g 57 14 = 0
        · rw [if_pos c, if_pos c, s_linked]
          simp only [Option.bind_some]
          have e : fOr (fun w => if xHas (xMet g N p kn k) (nI w) then gI τ 22 w else 0) 20 = fOr (xEdge g p kn (xMet g N p kn k)) N := by
            rw [← lk_edge hw]
            apply fOr_congr
            intro w hw2
            rw [hl w hw2]
          rw [e, nI_1]
          exact ih n (k + 1) (by omega) (by omega)
        · rw [if_neg c, if_neg c]
  exact outer aN 9 0 (by omega) (by show 9 < 1000000; omega)
/-- rows of the loop -/
def gS (g : Nat → Nat → Int32) (p kn i : Nat) (τ : aSt) : Prop := gI τ 21 3 = fSum (fun j => t3 g p kn (xOrd g j)) i ∧ gI τ 21 4 = fSum (fun j => t4 g p kn (xOrd g j)) i ∧ gI τ 20 3 = xBit (g 64 p) ||| fOr (fun j => t5 g p kn (xOrd g j)) i ∧ gI τ 21 6 = fSum (fun j => t6 g p kn (xOrd g j)) i ∧ gI τ 21 9 = fSum (fun j => t9 g p kn (xOrd g j)) i ∧ gI τ 20 1 = (xPrf g p kn i).1 ∧ (∀ l, (xPrf g p kn i).2 = some l → gI τ 20 4 = g 62 l) ∧ gI τ 20 5 = g 57 15 ∧ gI τ 20 6 = g 57 16 ∧ gI τ 21 1 = g 66 p ∧ gI τ 21 2 = g 62 p - g 62 p / 24 * 24 ∧ ∀ w, w < 20 → gI τ 22 w = fOr (fun j => if xAhd g p kn (xOrd g j) then tL g w (xOrd g j) else 0) i
theorem xPrf_none {p kn : Nat} : ∀ i, (xPrf g p kn i).2 = none → (xPrf g p kn i).1 = 0
  | 0, _ => rfl
  | i + 1, h => by
    unfold xPrf at h ⊢
    by_cases c : (xAhd g p kn (xOrd g i) && xPay g p (xOrd g i)) = true
    · rw [if_pos c] at h
      cases h
    · rw [if_neg c] at h ⊢
      exact xPrf_none i h
theorem xFad_0 (t : Int32) : xFad g 0 t = 0 := xFadN_0 _
theorem s_gloop (hw : gW g N R) {p kn P : Nat} (hk : kn < 2) (hP : P < N) (eP : xOrd g P = p) : ∀ (f i : Nat) (τ : aSt), i ≤ P → P < i + f → cG g N R b τ → gS g p kn i τ → ∃ τ', f_X7_gather_10 f (84 + p) (nI kn) (nI i) τ = f_X7_gather_76 (84 + p) τ' ∧ Fr (fun a _ => a = 20 ∨ a = 21 ∨ a = 22) τ τ' ∧ gL τ' = gL τ ∧ cG g N R b τ' ∧ gS g p kn P τ' := by
  have hN := hw.hN
  have hp : p < N := by rw [← eP]; exact hw.olt P hP
  intro f
  induction f with
  | zero => intro i τ h1 h2; omega
  | succ f ih =>
    intro i τ h1 h2 hc hs
    show ∃ τ', f_X7_gather_10_b (f_X7_gather_10 f) (84 + p) (nI kn) (nI i) τ = _ ∧ _
    unfold f_X7_gather_10_b
    rw [hc.n2, if_neg (fun q => by rw [nI_leI (by omega) (by omega)] at q; omega), s_inOrd hw hc (by omega)]
    simp only [Option.bind_some, oC_some]
    have hq : xOrd g i < N := hw.olt i (by omega)
    obtain ⟨-, -, -, -, -, -, q6⟩ := hc.pay hq
    obtain ⟨-, -, -, -, -, -, r6⟩ := hc.pay hp
    rw [if_pos (hc.ok hq), if_pos (hc.ok hp), q6, r6]
    by_cases hi : i = P
    · subst hi
      rw [eP, if_pos rfl]
      exact ⟨τ, rfl, Fr.rf, rfl, hc, hs⟩
    · have hne : ¬ nI (xOrd g i) = nI p := fun z => by
        have z2 := nI_inj (by omega) (by omega) z
        exact hi (hw.oinj i P (by omega) hP (z2.trans eP.symm))
      have hbf : xBef g (xOrd g i) p = true := by
        rw [← eP, hw.obi (by omega) hP]
        exact decide_eq_true (by omega)
      have hah : xAhd g p kn (xOrd g i) = (decide (kn = 0) || decide (xOrd g i < p)) := by
        unfold xAhd
        rw [hbf, Bool.true_and]
      rw [if_neg hne]
      obtain ⟨s3, s4, s5, s6, s9, sp, sl, sw, sd, sa, sb, sk⟩ := hs
      have addc : xAhd g p kn (xOrd g i) = true → ∃ τ', f_X7_gather_63 (f_X7_gather_10 f) (84 + p) (nI kn) (nI i) (84 + xOrd g i) τ = f_X7_gather_76 (84 + p) τ' ∧ Fr (fun a _ => a = 20 ∨ a = 21 ∨ a = 22) τ τ' ∧ gL τ' = gL τ ∧ cG g N R b τ' ∧ gS g p kn P τ' := by
        intro ha
        obtain ⟨τ1, a1, a2, aL, a3, a4, a5, a6, a9, ap, al, aw⟩ := s_add hw hc sw sd hp hq
        have hc1 : cG g N R b τ1 := hc.fr a2 (fun a k z => cC_row hc.hb (by omega))
        have st : xPrf g p kn (i + 1) = if xPay g p (xOrd g i) then (match (xPrf g p kn i).2 with
          | none => (xPrf g p kn i).1 + (g 65 (xOrd g i) - (xPrf g p kn i).1) / 4
          | some l => xFad g (xPrf g p kn i).1 (g 62 (xOrd g i) - g 62 l) + (g 65 (xOrd g i) - xFad g (xPrf g p kn i).1 (g 62 (xOrd g i) - g 62 l)) / 4, some (xOrd g i)) else xPrf g p kn i := by
          show (if (xAhd g p kn (xOrd g i) && xPay g p (xOrd g i)) = true then _ else _) = _
          rw [ha, Bool.true_and]
          rfl
        have hs1 : gS g p kn (i + 1) τ1 := by
          refine ⟨?_, ?_, ?_, ?_, ?_, ?_, ?_, ?_, ?_, ?_, ?_, fun w hw2 => ?_⟩
          · rw [fSum_s, a3, s3]
            unfold t3
            rw [ha, Bool.true_and]
          · rw [fSum_s, a4, s4]
            unfold t4
            rw [ha, Bool.true_and]
          · rw [fOr_sa, a5, s5]
            unfold t5
            rw [ha, Bool.true_and]
          · rw [fSum_s, a6, s6]
            unfold t6
            rw [ha, Bool.true_and]
          · rw [fSum_s, a9, s9]
            unfold t9
            rw [ha, Bool.true_and]
          · rw [ap, st, sp]
            cases xPay g p (xOrd g i) with
            | false => rfl
            | true =>
              rw [if_pos rfl, if_pos rfl]
              unfold pfV
              cases hl : (xPrf g p kn i).2 with
              | none =>
                rw [xPrf_none i hl, xFad_0]
              | some l => rw [sl l hl]
          · intro l hl
            rw [al]
            rw [st] at hl
            cases hy : xPay g p (xOrd g i) with
            | false =>
              rw [hy, if_neg (by decide)] at hl
              rw [if_neg (by decide)]
              exact sl l hl
            | true =>
              rw [hy, if_pos rfl] at hl
              cases hl
              rw [if_pos rfl]
          · rw [a2.2.1 20 5 (by omega), sw]
          · rw [a2.2.1 20 6 (by omega), sd]
          · rw [a2.2.1 21 1 (by omega), sa]
          · rw [a2.2.1 21 2 (by omega), sb]
          · rw [fOr_s, aw w hw2, sk w hw2, ha, if_pos rfl]
        obtain ⟨τ2, b1, b2, bL, b3, b4⟩ := ih (i + 1) τ1 (by omega) (by omega) hc1 hs1
        refine ⟨τ2, ?_, (a2.mono (fun a k z => by omega)).tr b2, bL.trans aL, b3, b4⟩
        unfold f_X7_gather_63 f_X7_gather_70
        rw [a1]
        simp only [Option.bind_some]
        rw [nI_1]
        exact b1
      have skip : xAhd g p kn (xOrd g i) = false → ∃ τ', f_X7_gather_70 (f_X7_gather_10 f) (84 + p) (nI kn) (nI i) τ = f_X7_gather_76 (84 + p) τ' ∧ Fr (fun a _ => a = 20 ∨ a = 21 ∨ a = 22) τ τ' ∧ gL τ' = gL τ ∧ cG g N R b τ' ∧ gS g p kn P τ' := by
        intro ha
        have st : xPrf g p kn (i + 1) = xPrf g p kn i := by
          show (if (xAhd g p kn (xOrd g i) && xPay g p (xOrd g i)) = true then _ else _) = _
          rw [ha, Bool.false_and, if_neg (by decide)]
        have hs1 : gS g p kn (i + 1) τ := by
          unfold gS
          simp only [fSum_s, fOr_s, t3, t4, t5, t6, t9, ha, Bool.false_and, Bool.false_eq_true, if_false, Int32.add_zero, Int32.or_zero, st]
          exact ⟨s3, s4, s5, s6, s9, sp, sl, sw, sd, sa, sb, sk⟩
        unfold f_X7_gather_70
        rw [nI_1]
        exact ih (i + 1) τ (by omega) (by omega) hc hs1
      rcases (by omega : kn = 0 ∨ kn = 1) with rfl | rfl
      · rw [if_pos (show nI 0 = 0 from rfl)]
        exact addc (by rw [hah]; rfl)
      · rw [if_neg (show ¬ nI 1 = 0 by decide)]
        by_cases c : p ≤ xOrd g i
        · rw [if_pos (by rw [nI_leI (by omega) (by omega)]; exact c)]
          exact skip (by rw [hah, decide_eq_false (by omega : ¬ xOrd g i < p)]; rfl)
        · rw [if_neg (fun z => by rw [nI_leI (by omega) (by omega)] at z; exact c z)]
          exact addc (by rw [hah, decide_eq_true (by omega : xOrd g i < p)]; rfl)
end GC
