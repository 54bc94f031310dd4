/-! ===== drift: the tally ===== -/
section DR
variable (g : Nat → Nat → Int32) (s u m e : Int32)
def d1 (q : Nat) : Nat := if u ≤ g 62 q ∧ g 62 q < m then 1 else 0
def d2 (q : Nat) : Nat := if m ≤ g 62 q ∧ g 62 q < e then 1 else 0
def dx (q : Nat) : Nat := if u ≤ g 62 q ∧ g 62 q < m ∧ g 66 q = s then 1 else 0
def dy (q : Nat) : Nat := if m ≤ g 62 q ∧ g 62 q < e ∧ g 66 q = s then 1 else 0
end DR
def nS (h : Nat → Nat) : Nat → Nat
  | 0 => 0
  | n + 1 => nS h n + h n
theorem fSum_nS (h : Nat → Nat) : ∀ n, fSum (fun i => nI (h i)) n = nI (nS h n)
  | 0 => rfl
  | n + 1 => by
    rw [fSum_s, fSum_nS h n, nI_add]
    rfl
theorem nS_le {h h' : Nat → Nat} (hh : ∀ i, h i ≤ h' i) : ∀ n, nS h n ≤ nS h' n
  | 0 => Nat.le_refl _
  | n + 1 => by
    have := nS_le hh n
    have := hh n
    show nS h n + h n ≤ nS h' n + h' n
    omega
theorem nS_b {h : Nat → Nat} (hh : ∀ i, h i ≤ 1) : ∀ n, nS h n ≤ n
  | 0 => Nat.le_refl _
  | n + 1 => by
    have := nS_b hh n
    have := hh n
    show nS h n + h n ≤ n + 1
    omega
/-- the four counts, in the class's cells -/
def dC (h1 h2 hx hy : Nat) (τ : aSt) : Prop := gI τ 31 0 = nI h1 ∧ gI τ 31 1 = nI h2 ∧ gI τ 31 2 = nI hx ∧ gI τ 31 3 = nI hy
section DR2
variable {g : Nat → Nat → Int32} {N R b : Nat} {s u m e : Int32}
theorem s_tally81 {τ : aSt} (h : cG g N R b τ) {q : Nat} (hq : q < N) (rec23 : Int32 → Int32 → Int32 → Int32 → Int32 → aSt → Option (Unit × aSt)) (x6 : Int32) {h1 h2 hx hy t : Nat} (hd : dC h1 h2 hx hy τ) : ∃ τ', f_X1_tally_81 rec23 s u m e x6 (84 + q) (nI t) τ = rec23 s u m e (x6 + 1) τ' ∧ Fr (fun a _ => a = 31) τ τ' ∧ gL τ' = gL τ ∧ (m ≤ g 62 q → dC h1 (h2 + 1) hx (hy + t) τ') ∧ (¬ m ≤ g 62 q → dC (h1 + 1) h2 (hx + t) hy τ') := by
  obtain ⟨c1, c2, c3, c4⟩ := hd
  obtain ⟨-, p1, -⟩ := h.pay hq
  unfold f_X1_tally_81 f_X1_tally_138
  rw [if_pos (h.ok hq), p1]
  by_cases c : m ≤ g 62 q
  · rw [if_pos c]
    refine ⟨_, rfl, ?_, rfl, fun _ => ?_, fun z => absurd c z⟩
    · refine Fr.sI (Fr.sI Fr.rf ?_) ?_ <;> rfl
    · refine ⟨?_, ?_, ?_, ?_⟩
      · rw [gI_other (Or.inr (by omega)), gI_other (Or.inr (by omega)), c1]
      · rw [gI_other (Or.inr (by omega)), gI_same, c2, nI_1]
      · rw [gI_other (Or.inr (by omega)), gI_other (Or.inr (by omega)), c3]
      · rw [gI_same, gI_other (Or.inr (by omega)), c4, nI_add]
  · rw [if_neg c]
    refine ⟨_, rfl, ?_, rfl, fun z => absurd z c, fun _ => ?_⟩
    · refine Fr.sI (Fr.sI Fr.rf ?_) ?_ <;> rfl
    · refine ⟨?_, ?_, ?_, ?_⟩
      · rw [gI_other (Or.inr (by omega)), gI_same, c1, nI_1]
      · rw [gI_other (Or.inr (by omega)), gI_other (Or.inr (by omega)), c2]
      · rw [gI_same, gI_other (Or.inr (by omega)), c3, nI_add]
      · rw [gI_other (Or.inr (by omega)), gI_other (Or.inr (by omega)), c4]
theorem s_tallyL (hw : gW g N R) (hum : u ≤ m) (hme : m ≤ e) : ∀ (f k : Nat) (τ : aSt), cG g N R b τ → k ≤ N → N < k + f → dC (nS (fun j => d1 g u m (xOrd g j)) k) (nS (fun j => d2 g m e (xOrd g j)) k) (nS (fun j => dx g s u m (xOrd g j)) k) (nS (fun j => dy g s m e (xOrd g j)) k) τ → ∃ τ', f_X1_tally_23 f s u m e (nI k) τ = some ((), τ') ∧ Fr (fun a _ => a = 31) τ τ' ∧ dC (nS (fun j => d1 g u m (xOrd g j)) N) (nS (fun j => d2 g m e (xOrd g j)) N) (nS (fun j => dx g s u m (xOrd g j)) N) (nS (fun j => dy g s m e (xOrd g j)) N) τ' := by
  have hN := hw.hN
  intro f
  induction f with
  | zero => intro k τ _ h1 h2; omega
  | succ f ih =>
    intro k τ hk h1 h2 hd
    show ∃ τ', f_X1_tally_23_b (f_X1_tally_23 f) s u m e (nI k) τ = _ ∧ _
    unfold f_X1_tally_23_b
    rw [hk.n2]
    by_cases z : k = N
    · subst z
      rw [if_pos (Int32.le_refl _)]
      exact ⟨τ, rfl, Fr.rf, hd⟩
    rw [if_neg (fun q => z (by rw [nI_leI (by omega) (by omega)] at q; omega)), s_inOrd hw hk (show k < N by omega)]
    simp only [Option.bind_some, oC_some]
    have hp : xOrd g k < N := hw.olt k (by omega)
    have sn : ∀ h : Nat → Nat, nS h (k + 1) = nS h k + h k := fun h => rfl
    have ihk := ih (k + 1)
    simp only [sn] at ihk
    generalize nS (fun j => d1 g u m (xOrd g j)) k = a1 at *
    generalize nS (fun j => d2 g m e (xOrd g j)) k = a2 at *
    generalize nS (fun j => dx g s u m (xOrd g j)) k = a3 at *
    generalize nS (fun j => dy g s m e (xOrd g j)) k = a4 at *
    generalize xOrd g k = q at *
    obtain ⟨-, p1, -, -, -, p5, -⟩ := hk.pay hp
    rw [if_pos (hk.ok hp), p1, p5]
    have skip : d1 g u m q = 0 → d2 g m e q = 0 → dx g s u m q = 0 → dy g s m e q = 0 → ∃ τ', f_X1_tally_138 (f_X1_tally_23 f) s u m e (nI k) τ = some ((), τ') ∧ Fr (fun a _ => a = 31) τ τ' ∧ dC (nS (fun j => d1 g u m (xOrd g j)) N) (nS (fun j => d2 g m e (xOrd g j)) N) (nS (fun j => dx g s u m (xOrd g j)) N) (nS (fun j => dy g s m e (xOrd g j)) N) τ' := by
      intro y1 y2 y3 y4
      rw [y1, y2, y3, y4] at ihk
      unfold f_X1_tally_138
      rw [nI_1]
      exact ihk τ hk (by omega) (by omega) hd
    by_cases c1 : g 62 q < u
    · rw [if_pos c1]
      have n1 : ¬ u ≤ g 62 q := fun z => by rw [pi_le] at z; rw [pi_lt] at c1; omega
      have n2 : ¬ m ≤ g 62 q := fun z => by rw [pi_le] at z hum; rw [pi_lt] at c1; omega
      refine skip ?_ ?_ ?_ ?_
      · unfold d1; rw [if_neg (fun z => n1 z.1)]
      · unfold d2; rw [if_neg (fun z => n2 z.1)]
      · unfold dx; rw [if_neg (fun z => n1 z.1)]
      · unfold dy; rw [if_neg (fun z => n2 z.1)]
    rw [if_neg c1]
    have c1' : u ≤ g 62 q := Int32.not_lt.mp c1
    by_cases c2 : g 62 q < e
    case neg =>
      rw [if_neg c2]
      have n1 : ¬ g 62 q < m := fun z => c2 (by rw [pi_lt] at z ⊢; rw [pi_le] at hme; omega)
      refine skip ?_ ?_ ?_ ?_
      · unfold d1; rw [if_neg (fun z => n1 z.2)]
      · unfold d2; rw [if_neg (fun z => c2 z.2)]
      · unfold dx; rw [if_neg (fun z => n1 z.2.1)]
      · unfold dy; rw [if_neg (fun z => c2 z.2.1)]
    rw [if_pos c2]
    have et : ∃ t : Nat, t = (if g 66 q = s then 1 else 0) := ⟨_, rfl⟩
    obtain ⟨t, ht⟩ := et
    have e81 : (if g 66 q = s then f_X1_tally_81 (f_X1_tally_23 f) s u m e (nI k) (84 + q) 1 τ else f_X1_tally_81 (f_X1_tally_23 f) s u m e (nI k) (84 + q) 0 τ) = f_X1_tally_81 (f_X1_tally_23 f) s u m e (nI k) (84 + q) (nI t) τ := by
      rw [ht]
      by_cases c : g 66 q = s
      · rw [if_pos c, if_pos c]; rfl
      · rw [if_neg c, if_neg c]; rfl
    rw [e81]
    obtain ⟨τ1, b1, b2, b3, b4⟩ := s_tally81 (s := s) (u := u) (m := m) (e := e) hk hp (f_X1_tally_23 f) (nI k) (t := t) hd
    rw [b1, nI_1]
    have hk1 : cG g N R b τ1 := hk.fr b2 (fun a k q => cC_row hk.hb (by omega))
    by_cases c3 : m ≤ g 62 q
    · have b4 := b4.1 c3
      have n1 : ¬ g 62 q < m := Int32.not_lt.mpr c3
      have y1 : d1 g u m q = 0 := by unfold d1; rw [if_neg (fun z => n1 z.2)]
      have y2 : d2 g m e q = 1 := by unfold d2; rw [if_pos ⟨c3, c2⟩]
      have y3 : dx g s u m q = 0 := by unfold dx; rw [if_neg (fun z => n1 z.2.1)]
      have y4 : dy g s m e q = t := by
        unfold dy
        rw [ht]
        by_cases c : g 66 q = s
        · rw [if_pos ⟨c3, c2, c⟩, if_pos c]
        · rw [if_neg (fun z => c z.2.2), if_neg c]
      rw [y1, y2, y3, y4] at ihk
      obtain ⟨τ2, k1, k2, k3⟩ := ihk τ1 hk1 (by omega) (by omega) b4
      exact ⟨τ2, k1, b2.tr k2, k3⟩
    · have b4 := b4.2 c3
      have n1 : g 62 q < m := Int32.not_le.mp c3
      have y1 : d1 g u m q = 1 := by unfold d1; rw [if_pos ⟨c1', n1⟩]
      have y2 : d2 g m e q = 0 := by unfold d2; rw [if_neg (fun z => c3 z.1)]
      have y3 : dx g s u m q = t := by
        unfold dx
        rw [ht]
        by_cases c : g 66 q = s
        · rw [if_pos ⟨c1', n1, c⟩, if_pos c]
        · rw [if_neg (fun z => c z.2.2), if_neg c]
      have y4 : dy g s m e q = 0 := by unfold dy; rw [if_neg (fun z => c3 z.1)]
      rw [y1, y2, y3, y4] at ihk
      obtain ⟨τ2, k1, k2, k3⟩ := ihk τ1 hk1 (by omega) (by omega) b4
      exact ⟨τ2, k1, b2.tr k2, k3⟩
theorem nS_perm (hw : gW g N R) (h : Nat → Nat) (hb : ∀ i, h i ≤ 1) : nS (fun j => h (xOrd g j)) N = nS h N := by
  have hN := hw.hN
  have e1 := fSum_nS (fun j => h (xOrd g j)) N
  have e2 := fSum_nS h N
  rw [fSum_perm hw.olt hw.oinj (fun i => nI (h i)), e2] at e1
  have l1 := nS_b hb N
  have l2 := nS_b (h := fun j => h (xOrd g j)) (fun i => hb _) N
  exact (nI_inj (by omega) (by omega) e1).symm
theorem d1_le (q : Nat) : d1 g u m q ≤ 1 := by unfold d1; split <;> omega
theorem d2_le (q : Nat) : d2 g m e q ≤ 1 := by unfold d2; split <;> omega
theorem dx_le (q : Nat) : dx g s u m q ≤ d1 g u m q := by
  unfold dx d1
  by_cases c : u ≤ g 62 q ∧ g 62 q < m
  · rw [if_pos c]; split <;> omega
  · rw [if_neg c, if_neg (fun z => c ⟨z.1, z.2.1⟩)]; omega
theorem dy_le (q : Nat) : dy g s m e q ≤ d2 g m e q := by
  unfold dy d2
  by_cases c : m ≤ g 62 q ∧ g 62 q < e
  · rw [if_pos c]; split <;> omega
  · rw [if_neg c, if_neg (fun z => c ⟨z.1, z.2.1⟩)]; omega
theorem s_tally (hw : gW g N R) {τ : aSt} (h : cG g N R b τ) (hum : u ≤ m) (hme : m ≤ e) : ∃ τ', f_X1_tally s u m e τ = some ((), τ') ∧ Fr (fun a _ => a = 31) τ τ' ∧ dC (nS (d1 g u m) N) (nS (d2 g m e) N) (nS (dx g s u m) N) (nS (dy g s m e) N) τ' := by
  have hN := hw.hN
  unfold f_X1_tally f_X1_tally_15
  generalize hτ : sI (sI (sI (sI τ 31 0 0) 31 1 0) 31 2 0) 31 3 0 = τ1
  have f1 : Fr (fun a _ => a = 31) τ τ1 := by
    rw [← hτ]
    refine Fr.sI (Fr.sI (Fr.sI (Fr.sI Fr.rf ?_) ?_) ?_) ?_ <;> rfl
  have hc1 : cG g N R b τ1 := h.fr f1 (fun a k q => cC_row h.hb (by omega))
  obtain ⟨τ2, a1, a2, a3⟩ := s_tallyL (s := s) hw hum hme aN 0 τ1 hc1 (by omega) (by show N < 0 + 1000000; omega) (by
    rw [← hτ]
    refine ⟨?_, ?_, ?_, ?_⟩
    · rw [gI_other (Or.inr (by omega)), gI_other (Or.inr (by omega)), gI_other (Or.inr (by omega)), gI_same]; rfl
    · rw [gI_other (Or.inr (by omega)), gI_other (Or.inr (by omega)), gI_same]; rfl
    · rw [gI_other (Or.inr (by omega)), gI_same]; rfl
    · rw [gI_same]; rfl)
  rw [nS_perm hw (d1 g u m) d1_le, nS_perm hw (d2 g m e) d2_le, nS_perm hw (dx g s u m) (fun q => Nat.le_trans (dx_le q) (d1_le q)), nS_perm hw (dy g s m e) (fun q => Nat.le_trans (dy_le q) (d2_le q))] at a3
  exact ⟨τ2, a1, f1.tr a2, a3⟩
theorem s_tallyM (hw : gW g N R) {τ : aSt} (h : Ag g τ) (x5 : Int32) (hum : u ≤ m) (hme : m ≤ e) : ∀ (f k : Nat), k ≤ N → N < k + f → f_X12_drift_88 f s u m e x5 (nI (nS (d1 g u m) k)) (nI (nS (dx g s u m) k)) (nI (nS (d2 g m e) k)) (nI (nS (dy g s m e) k)) (nI k) τ = (if nI (nS (d1 g u m) N) + nI (nS (d2 g m e) N) ≤ 40 then f_X12_drift_216 aN x5 (nI (nS (d1 g u m) N)) (nI (nS (dx g s u m) N)) (nI (nS (d2 g m e) N)) (nI (nS (dy g s m e) N)) 0 τ else some (-1000003, τ)) := by
  have hN := hw.hN
  intro f
  induction f with
  | zero => intro k h1 h2; omega
  | succ f ih =>
    intro k h1 h2
    show f_X12_drift_88_b (f_X12_drift_88 f) s u m e x5 (nI (nS (d1 g u m) k)) (nI (nS (dx g s u m) k)) (nI (nS (d2 g m e) k)) (nI (nS (dy g s m e) k)) (nI k) τ = _
    unfold f_X12_drift_88_b
    rw [h.c (by omega), hw.n5]
    by_cases z : k = N
    · subst z
      rw [if_pos (Int32.le_refl _)]
    have sn : ∀ h : Nat → Nat, nS h (k + 1) = nS h k + h k := fun h => rfl
    have ihk := ih (k + 1) (by omega) (by omega)
    have sn' : ∀ h : Nat → Nat, nI (nS h (k + 1)) = nI (nS h k) + nI (h k) := fun h => by rw [sn, nI_add]
    rw [sn' (d1 g u m), sn' (dx g s u m), sn' (d2 g m e), sn' (dy g s m e)] at ihk
    have ib : inB (nI k) 120 := ix_in (by omega) (by omega)
    rw [if_neg (fun q => z (by rw [nI_leI (by omega) (by omega)] at q; omega)), if_pos ib]
    simp only [if_pos ib, ix_cl (show k < 2147483648 by omega), h.row k (show (61 ≤ 62 ∧ 62 ≤ 66) ∨ _ from Or.inl (by omega)), h.row k (show (61 ≤ 66 ∧ 66 ≤ 66) ∨ _ from Or.inl (by omega))]
    have ek : nI k + 1 = nI (k + 1) := by rw [nI_1]
    unfold f_X12_drift_146 f_X12_drift_140 f_X12_drift_190 f_X12_drift_193
    simp only [if_pos ib, ix_cl (show k < 2147483648 by omega), h.row k (show (61 ≤ 62 ∧ 62 ≤ 66) ∨ _ from Or.inl (by omega)), h.row k (show (61 ≤ 66 ∧ 66 ≤ 66) ∨ _ from Or.inl (by omega)), ek]
    generalize nI (nS (d1 g u m) k) = a1 at *
    generalize nI (nS (d2 g m e) k) = a2 at *
    generalize nI (nS (dx g s u m) k) = a3 at *
    generalize nI (nS (dy g s m e) k) = a4 at *
    have z0 : nI 0 = 0 := rfl
    have z1 : nI 1 = 1 := rfl
    by_cases c1 : g 62 k < u
    · have n1 : ¬ u ≤ g 62 k := Int32.not_le.mpr c1
      have n3 : g 62 k < m := by rw [pi_lt] at c1 ⊢; rw [pi_le] at hum; omega
      have n2 : ¬ m ≤ g 62 k := Int32.not_le.mpr n3
      have y1 : d1 g u m k = 0 := by unfold d1; rw [if_neg (fun z => n1 z.1)]
      have y2 : d2 g m e k = 0 := by unfold d2; rw [if_neg (fun z => n2 z.1)]
      have y3 : dx g s u m k = 0 := by unfold dx; rw [if_neg (fun z => n1 z.1)]
      have y4 : dy g s m e k = 0 := by unfold dy; rw [if_neg (fun z => n2 z.1)]
      rw [y1, y2, y3, y4, z0] at ihk
      simp only [Int32.add_zero] at ihk ⊢
      rw [if_pos c1, if_pos n3]
      exact ihk
    · have c1' : u ≤ g 62 k := Int32.not_lt.mp c1
      rw [if_neg c1]
      by_cases c3 : m ≤ g 62 k
      · have n1 : ¬ g 62 k < m := Int32.not_lt.mpr c3
        rw [if_pos c3, if_neg n1]
        have y1 : d1 g u m k = 0 := by unfold d1; rw [if_neg (fun z => n1 z.2)]
        have y3 : dx g s u m k = 0 := by unfold dx; rw [if_neg (fun z => n1 z.2.1)]
        by_cases c2 : g 62 k < e
        · rw [if_neg (Int32.not_le.mpr c2)]
          have y2 : d2 g m e k = 1 := by unfold d2; rw [if_pos ⟨c3, c2⟩]
          by_cases c : g 66 k = s
          · rw [if_pos c]
            have y4 : dy g s m e k = 1 := by unfold dy; rw [if_pos ⟨c3, c2, c⟩]
            rw [y1, y2, y3, y4, z0, z1] at ihk
            simp only [Int32.add_zero] at ihk ⊢
            exact ihk
          · rw [if_neg c]
            have y4 : dy g s m e k = 0 := by unfold dy; rw [if_neg (fun z => c z.2.2)]
            rw [y1, y2, y3, y4, z0, z1] at ihk
            simp only [Int32.add_zero] at ihk ⊢
            exact ihk
        · rw [if_pos (Int32.not_lt.mp c2)]
          have y2 : d2 g m e k = 0 := by unfold d2; rw [if_neg (fun z => c2 z.2)]
          have y4 : dy g s m e k = 0 := by unfold dy; rw [if_neg (fun z => c2 z.2.1)]
          rw [y1, y2, y3, y4, z0] at ihk
          simp only [Int32.add_zero] at ihk ⊢
          exact ihk
      · have n1 : g 62 k < m := Int32.not_le.mp c3
        rw [if_neg c3]
        have y1 : d1 g u m k = 1 := by unfold d1; rw [if_pos ⟨c1', n1⟩]
        have y2 : d2 g m e k = 0 := by unfold d2; rw [if_neg (fun z => c3 z.1)]
        have y4 : dy g s m e k = 0 := by unfold dy; rw [if_neg (fun z => c3 z.1)]
        by_cases c : g 66 k = s
        · rw [if_pos c]
          have y3 : dx g s u m k = 1 := by unfold dx; rw [if_pos ⟨c1', n1, c⟩]
          rw [y1, y2, y3, y4, z0, z1] at ihk
          simp only [Int32.add_zero] at ihk ⊢
          exact ihk
        · rw [if_neg c]
          have y3 : dx g s u m k = 0 := by unfold dx; rw [if_neg (fun z => c z.2.2)]
          rw [y1, y2, y3, y4, z0, z1] at ihk
          simp only [Int32.add_zero] at ihk ⊢
          exact ihk
end DR2
