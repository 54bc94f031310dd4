/-! ===== drift ===== -/
def xAb (n1 n2 p q : Int32) : Int32 := if 0 ≤ p * n2 - q * n1 then p * n2 - q * n1 else -(p * n2 - q * n1)
/-- the ways as far apart, of the first k -/
def xFr (n1 n2 al : Nat) (sn : Int32) : Nat → Int64
  | 0 => 0
  | k + 1 => xFr n1 n2 al sn k + (if xAb (nI n1) (nI n2) (nI k) (nI al - nI k) < sn then 0 else xCh al (nI k) * xCh (n1 + n2 - al) (nI n1 - nI k))
theorem s_apart {n1 n2 : Nat} {τ : aSt} (h0 : gI τ 31 0 = nI n1) (h1 : gI τ 31 1 = nI n2) (p q : Int32) : f_X1_apart p q τ = some (xAb (nI n1) (nI n2) p q, τ) := by
  unfold f_X1_apart xAb
  rw [h0, h1, Int32.zero_sub]
theorem s_far41 {n1 n2 al : Nat} (hal : al ≤ n1 + n2) (h40 : n1 + n2 ≤ 40) {τ : aSt} (h0 : gI τ 31 0 = nI n1) (h1 : gI τ 31 1 = nI n2) (sn : Int32) : ∀ (f k : Nat), k ≤ al + 1 → al + 1 < k + f → f_X1_waysAsFar_41 f (nI al) (nI (n1 + n2 - al)) sn (xFr n1 n2 al sn k) (nI k) τ = some (xFr n1 n2 al sn (al + 1), τ) := by
  intro f
  induction f with
  | zero => intro k q1 q2; omega
  | succ f ih =>
    intro k q1 q2
    show f_X1_waysAsFar_41_b (f_X1_waysAsFar_41 f) (nI al) (nI (n1 + n2 - al)) sn (xFr n1 n2 al sn k) (nI k) τ = _
    unfold f_X1_waysAsFar_41_b f_X1_waysAsFar_84
    by_cases e : k = al + 1
    · subst e
      rw [if_pos ((nI_ltI (by omega) (by omega)).mpr (by omega))]
    · rw [if_neg (fun q => by rw [nI_ltI (by omega) (by omega)] at q; omega), s_apart h0 h1]
      simp only [Option.bind_some]
      have z := ih (k + 1) (by omega) (by omega)
      have es : xFr n1 n2 al sn (k + 1) = xFr n1 n2 al sn k + (if xAb (nI n1) (nI n2) (nI k) (nI al - nI k) < sn then 0 else xCh al (nI k) * xCh (n1 + n2 - al) (nI n1 - nI k)) := rfl
      rw [es] at z
      rw [nI_1]
      by_cases c : xAb (nI n1) (nI n2) (nI k) (nI al - nI k) < sn
      · rw [if_pos c] at z ⊢
        rw [Int64.add_zero] at z
        exact z
      · rw [if_neg c] at z ⊢
        rw [s_choose (by omega), Option.bind_some, h0, s_choose (by omega), Option.bind_some]
        exact z
/-- what is told -/
def xTell (n1 n2 x y : Nat) (j : Nat) : Int64 := if j = 0 then xFr n1 n2 (x + y) (xAb (nI n1) (nI n2) (nI x) (nI y)) (x + y + 1) else if j = 1 then xCh (n1 + n2) (nI n1) else if j = 2 then (nI n1).toInt64 else if j = 3 then (nI x).toInt64 else if j = 4 then (nI n2).toInt64 else (nI y).toInt64
theorem s_tell {n1 n2 x y : Nat} {τ : aSt} (hd : dC n1 n2 x y τ) (h40 : n1 + n2 ≤ 40) (hx : x ≤ n1) (hy : y ≤ n2) {j : Nat} (hj : j < 6) : f_X1_tell (nI j) τ = some (xTell n1 n2 x y j, τ) := by
  obtain ⟨d1, d2, d3, d4⟩ := hd
  unfold f_X1_tell xTell
  rcases (by omega : j = 0 ∨ j = 1 ∨ j = 2 ∨ j = 3 ∨ j = 4 ∨ j = 5) with q | q | q | q | q | q <;> subst q
  · rw [if_pos (show nI 0 = 0 from rfl), if_pos rfl]
    unfold f_X1_waysAsFar
    rw [s_apart d1 d2, Option.bind_some, d1, d2, d3, d4, nI_add, nI_add, pk_sub (by omega)]
    have := s_far41 (n1 := n1) (n2 := n2) (al := x + y) (by omega) h40 d1 d2 (xAb (nI n1) (nI n2) (nI x) (nI y)) aN 0 (by omega) (by show x + y + 1 < 0 + 1000000; omega)
    rw [show f_X1_waysAsFar_41 aN (nI (x + y)) (nI (n1 + n2 - (x + y))) (xAb (nI n1) (nI n2) (nI x) (nI y)) 0 0 τ = _ from this, Option.bind_some]
  · rw [if_neg (by decide), if_pos (show nI 1 = 1 from rfl), if_neg (by decide), if_pos rfl, d1, d2, nI_add, s_choose h40, Option.bind_some]
  · rw [if_neg (by decide), if_neg (by decide), if_pos (show nI 2 = 2 from rfl), if_neg (by decide), if_neg (by decide), if_pos rfl, d1]
  · rw [if_neg (by decide), if_neg (by decide), if_neg (by decide), if_pos (show nI 3 = 3 from rfl), if_neg (by decide), if_neg (by decide), if_neg (by decide), if_pos rfl, d3]
  · rw [if_neg (by decide), if_neg (by decide), if_neg (by decide), if_neg (by decide), if_pos (show nI 4 = 4 from rfl), if_neg (by decide), if_neg (by decide), if_neg (by decide), if_neg (by decide), if_pos rfl, d2]
  · rw [if_neg (by decide), if_neg (by decide), if_neg (by decide), if_neg (by decide), if_neg (by decide), if_neg (by decide), if_neg (by decide), if_neg (by decide), if_neg (by decide), if_neg (by decide), d4]
theorem s_far348 {n1 n2 x y j : Nat} (h40 : n1 + n2 ≤ 40) (hx : x ≤ n1) (hy : y ≤ n2) (hj : j < 6) {τ : aSt} (ht : tbl 41 0 τ) : ∀ (f k : Nat), k ≤ x + y + 1 → x + y + 1 < k + f → f_X12_drift_348 f (nI j) (nI n1) (nI x) (nI n2) (nI y) (nI (x + y)) (xAb (nI n1) (nI n2) (nI x) (nI y)) (xFr n1 n2 (x + y) (xAb (nI n1) (nI n2) (nI x) (nI y)) k) (nI k) τ = some (xTell n1 n2 x y j, τ) := by
  intro f
  induction f with
  | zero => intro k q1 q2; omega
  | succ f ih =>
    intro k q1 q2
    show f_X12_drift_348_b (f_X12_drift_348 f) (nI j) (nI n1) (nI x) (nI n2) (nI y) (nI (x + y)) (xAb (nI n1) (nI n2) (nI x) (nI y)) (xFr n1 n2 (x + y) (xAb (nI n1) (nI n2) (nI x) (nI y)) k) (nI k) τ = _
    unfold f_X12_drift_348_b f_X12_drift_503
    by_cases e : k = x + y + 1
    · subst e
      rw [if_pos ((nI_ltI (by omega) (by omega)).mpr (by omega))]
      unfold xTell
      rcases (by omega : j = 0 ∨ j = 1 ∨ j = 2 ∨ j = 3 ∨ j = 4 ∨ j = 5) with q | q | q | q | q | q <;> subst q
      · rw [if_pos (show nI 0 = 0 from rfl), if_pos rfl]
      · rw [if_neg (by decide), if_pos (show nI 1 = 1 from rfl), if_neg (by decide), if_pos rfl, nI_add, s_waysOf h40 _ ht, Option.bind_some]
      · rw [if_neg (by decide), if_neg (by decide), if_pos (show nI 2 = 2 from rfl), if_neg (by decide), if_neg (by decide), if_pos rfl]
      · rw [if_neg (by decide), if_neg (by decide), if_neg (by decide), if_pos (show nI 3 = 3 from rfl), if_neg (by decide), if_neg (by decide), if_neg (by decide), if_pos rfl]
      · rw [if_neg (by decide), if_neg (by decide), if_neg (by decide), if_neg (by decide), if_pos (show nI 4 = 4 from rfl), if_neg (by decide), if_neg (by decide), if_neg (by decide), if_neg (by decide), if_pos rfl]
      · rw [if_neg (by decide), if_neg (by decide), if_neg (by decide), if_neg (by decide), if_neg (by decide), if_neg (by decide), if_neg (by decide), if_neg (by decide), if_neg (by decide), if_neg (by decide)]
    · rw [if_neg (fun q => by rw [nI_ltI (by omega) (by omega)] at q; omega)]
      have z := ih (k + 1) (by omega) (by omega)
      generalize hsn : xAb (nI n1) (nI n2) (nI x) (nI y) = sn at *
      have es : xFr n1 n2 (x + y) sn (k + 1) = xFr n1 n2 (x + y) sn k + (if xAb (nI n1) (nI n2) (nI k) (nI (x + y) - nI k) < sn then 0 else xCh (x + y) (nI k) * xCh (n1 + n2 - (x + y)) (nI n1 - nI k)) := rfl
      rw [es] at z
      have e384 : (if 0 ≤ ((nI k * nI n2) - ((nI (x + y) - nI k) * nI n1)) then f_X12_drift_384 (f_X12_drift_348 f) (nI j) (nI n1) (nI x) (nI n2) (nI y) (nI (x + y)) sn (xFr n1 n2 (x + y) sn k) (nI k) ((nI k * nI n2) - ((nI (x + y) - nI k) * nI n1)) τ else f_X12_drift_384 (f_X12_drift_348 f) (nI j) (nI n1) (nI x) (nI n2) (nI y) (nI (x + y)) sn (xFr n1 n2 (x + y) sn k) (nI k) (-((nI k * nI n2) - ((nI (x + y) - nI k) * nI n1))) τ) = f_X12_drift_384 (f_X12_drift_348 f) (nI j) (nI n1) (nI x) (nI n2) (nI y) (nI (x + y)) sn (xFr n1 n2 (x + y) sn k) (nI k) (xAb (nI n1) (nI n2) (nI k) (nI (x + y) - nI k)) τ := by
        unfold xAb
        by_cases c : 0 ≤ ((nI k * nI n2) - ((nI (x + y) - nI k) * nI n1))
        · rw [if_pos c, if_pos c]
        · rw [if_neg c, if_neg c]
      rw [e384]
      unfold f_X12_drift_384 f_X12_drift_425
      rw [nI_1]
      by_cases c : xAb (nI n1) (nI n2) (nI k) (nI (x + y) - nI k) < sn
      · rw [if_pos c] at z ⊢
        exact z
      · rw [if_neg c] at z ⊢
        rw [s_waysOf (by omega) _ ht, Option.bind_some, nI_add, pk_sub (by omega), s_waysOf (by omega) _ ht, Option.bind_some]
        exact z
theorem areB {u m : Int32} : (0 ≤ u ∧ u ≤ 200000 ∧ u ≤ m ∧ m ≤ 200000) ↔ ((0 ≤ u ∧ u ≤ 200000) ∧ (u ≤ m ∧ m ≤ 200000)) := ⟨fun h => ⟨⟨h.1, h.2.1⟩, h.2.2.1, h.2.2.2⟩, fun h => ⟨h.1.1, h.1.2, h.2.1, h.2.2⟩⟩
theorem op_drift {σ : aSt} (h : Inv σ) (p1 p2 p3 p4 p5 : Int32) : Op (f_X11_drift p1 p2 p3 p4 p5) (f_X12_drift p1 p2 p3 p4 p5) σ := by
  obtain ⟨N, b, R, hw, hc, hca, hp, -⟩ := h.data
  have hA := Ag.self σ
  have hN := hw.hN
  have mi : ∀ (lo hi : Int32) (a : Int32) (τ : aSt), f_X12_in a.toInt64 lo.toInt64 hi.toInt64 τ = some (bI (decide (lo ≤ a ∧ a ≤ hi)), τ) := fun lo hi a τ => s_in lo.toInt64 hi.toInt64 lo hi rfl rfl τ
  have m2 : f_X12_in p1.toInt64 0 3 (sI σ 57 0 0) = some (bI (decide (0 ≤ p1 ∧ p1 ≤ 3)), sI σ 57 0 0) := s_in 0 3 0 3 rfl rfl _
  by_cases c : (0 ≤ p1 ∧ p1 ≤ 3) ∧ (0 ≤ p5 ∧ p5 ≤ 5) ∧ (0 ≤ p2 ∧ p2 ≤ 200000) ∧ (p2 ≤ p3 ∧ p3 ≤ 200000) ∧ (p3 ≤ p4 ∧ p4 ≤ 200000)
  case neg =>
    refine ⟨-1000001, σ, sI σ 57 0 0, ?_, ?_, h.thr 0⟩
    · unfold f_X11_drift f_X11_drift_19 f_X11_drift_40
      rw [s_within, Option.bind_some]
      simp only [bI_0, decide_eq_false_iff_not]
      by_cases d1 : 0 ≤ p1 ∧ p1 ≤ 3
      case neg => rw [if_pos d1]
      rw [if_neg (not_not_intro d1), s_within, Option.bind_some]
      simp only [bI_0, decide_eq_false_iff_not]
      by_cases d2 : 0 ≤ p5 ∧ p5 ≤ 5
      case neg => rw [if_pos d2]
      rw [if_neg (not_not_intro d2), s_areBounds, Option.bind_some]
      simp only [bI_0, decide_eq_false_iff_not]
      by_cases d3 : 0 ≤ p2 ∧ p2 ≤ 200000 ∧ p2 ≤ p3 ∧ p3 ≤ 200000
      case neg => rw [if_pos d3]
      rw [if_neg (not_not_intro d3), s_areBounds, Option.bind_some]
      simp only [bI_0, decide_eq_false_iff_not]
      by_cases d4 : 0 ≤ p3 ∧ p3 ≤ 200000 ∧ p3 ≤ p4 ∧ p4 ≤ 200000
      case neg => rw [if_pos d4]
      exact absurd ⟨d1, d2, ⟨d3.1, d3.2.1⟩, d3.2.2, d4.2.2⟩ c
    · unfold f_X12_drift f_X12_drift_69
      rw [m2, Option.bind_some]
      simp only [bI_0, decide_eq_false_iff_not]
      by_cases d1 : 0 ≤ p1 ∧ p1 ≤ 3
      case neg => rw [if_pos d1]
      rw [if_neg (not_not_intro d1), s_in 0 200000 0 200000 rfl rfl, Option.bind_some]
      simp only [bI_0, decide_eq_false_iff_not]
      by_cases d2 : 0 ≤ p2 ∧ p2 ≤ 200000
      case neg => rw [if_pos d2]
      rw [if_neg (not_not_intro d2), s_in p2.toInt64 200000 p2 200000 rfl rfl, Option.bind_some]
      simp only [bI_0, decide_eq_false_iff_not]
      by_cases d3 : p2 ≤ p3 ∧ p3 ≤ 200000
      case neg => rw [if_pos d3]
      rw [if_neg (not_not_intro d3), s_in p3.toInt64 200000 p3 200000 rfl rfl, Option.bind_some]
      simp only [bI_0, decide_eq_false_iff_not]
      by_cases d4 : p3 ≤ p4 ∧ p4 ≤ 200000
      case neg => rw [if_pos d4]
      rw [if_neg (not_not_intro d4), s_in 0 5 0 5 rfl rfl, Option.bind_some]
      simp only [bI_0, decide_eq_false_iff_not]
      by_cases d5 : 0 ≤ p5 ∧ p5 ≤ 5
      case neg => rw [if_pos d5]
      exact absurd ⟨d1, d5, d2, d3, d4⟩ c
  obtain ⟨k1, k5, k2, k3, k4⟩ := c
  have k30 : 0 ≤ p3 := Int32.le_trans k2.1 k3.1
  obtain ⟨j, hj, rfl⟩ := ix_rng (x := p5) (N := 6) rfl rfl k5.1 k5.2
  obtain ⟨σ1, a1, a2, a3⟩ := s_tally (s := p1) (u := p2) (m := p3) (e := p4) hw hc k3.1 k4.1
  have hf1 : Fr scr σ σ1 := a2.mono (fun a k q => by rw [q]; simp [scr])
  have hI1 : Inv σ1 := h.fr hf1
  have hA1 : Ag (vw σ) σ1 := hA.fr2 a2 (fun a k q => by rw [q]; simp [scr])
  have ec : f_X11_drift p1 p2 p3 p4 (nI j) σ = (if ((gI σ1 31 0) + (gI σ1 31 1)) ≤ 40 then (f_X1_tell (nI j) σ1).bind (fun q16 => f_X11_drift_95 (q16.1) q16.2) else f_X11_drift_95 (-1000003) σ1) := by
    unfold f_X11_drift
    rw [s_within, Option.bind_some]
    simp only [bI_0, decide_eq_false_iff_not]
    rw [if_neg (not_not_intro k1), s_within, Option.bind_some]
    simp only [bI_0, decide_eq_false_iff_not]
    rw [if_neg (not_not_intro k5), s_areBounds, Option.bind_some]
    simp only [bI_0, decide_eq_false_iff_not]
    rw [if_neg (not_not_intro (show 0 ≤ p2 ∧ p2 ≤ 200000 ∧ p2 ≤ p3 ∧ p3 ≤ 200000 from ⟨k2.1, k2.2, k3⟩)), s_areBounds, Option.bind_some]
    simp only [bI_0, decide_eq_false_iff_not]
    rw [if_neg (not_not_intro (show 0 ≤ p3 ∧ p3 ≤ 200000 ∧ p3 ≤ p4 ∧ p4 ≤ 200000 from ⟨k30, k3.2, k4⟩)), a1, Option.bind_some]
  have em : f_X12_drift p1 p2 p3 p4 (nI j) σ1 = (if nI (nS (d1 (vw σ) p2 p3) N) + nI (nS (d2 (vw σ) p3 p4) N) ≤ 40 then f_X12_drift_216 aN (nI j) (nI (nS (d1 (vw σ) p2 p3) N)) (nI (nS (dx (vw σ) p1 p2 p3) N)) (nI (nS (d2 (vw σ) p3 p4) N)) (nI (nS (dy (vw σ) p1 p3 p4) N)) 0 (sI σ1 57 0 0) else some (-1000003, sI σ1 57 0 0)) := by
    unfold f_X12_drift
    rw [s_in 0 3 0 3 rfl rfl, Option.bind_some]
    simp only [bI_0, decide_eq_false_iff_not]
    rw [if_neg (not_not_intro k1), s_in 0 200000 0 200000 rfl rfl, Option.bind_some]
    simp only [bI_0, decide_eq_false_iff_not]
    rw [if_neg (not_not_intro k2), s_in p2.toInt64 200000 p2 200000 rfl rfl, Option.bind_some]
    simp only [bI_0, decide_eq_false_iff_not]
    rw [if_neg (not_not_intro k3), s_in p3.toInt64 200000 p3 200000 rfl rfl, Option.bind_some]
    simp only [bI_0, decide_eq_false_iff_not]
    rw [if_neg (not_not_intro k4), s_in 0 5 0 5 rfl rfl, Option.bind_some]
    simp only [bI_0, decide_eq_false_iff_not]
    rw [if_neg (not_not_intro k5)]
    exact s_tallyM hw hA1.th (nI j) k3.1 k4.1 aN 0 (by omega) (by show N < 0 + 1000000; omega)
  have b1 := nS_b (h := d1 (vw σ) p2 p3) d1_le N
  have b2 := nS_b (h := d2 (vw σ) p3 p4) d2_le N
  have b3 := nS_le (h := dx (vw σ) p1 p2 p3) (h' := d1 (vw σ) p2 p3) dx_le N
  have b4 := nS_le (h := dy (vw σ) p1 p3 p4) (h' := d2 (vw σ) p3 p4) dy_le N
  generalize nS (d1 (vw σ) p2 p3) N = n1 at *
  generalize nS (d2 (vw σ) p3 p4) N = n2 at *
  generalize nS (dx (vw σ) p1 p2 p3) N = x at *
  generalize nS (dy (vw σ) p1 p3 p4) N = y at *
  rw [a3.1, a3.2.1, nI_add] at ec
  rw [nI_add] at em
  by_cases c40 : n1 + n2 ≤ 40
  · have c40' : nI (n1 + n2) ≤ 40 := by rw [show (40 : Int32) = nI 40 from rfl, nI_leI (by omega) (by omega)]; exact c40
    rw [if_pos c40', s_tell a3 c40 b3 b4 hj, Option.bind_some] at ec
    obtain ⟨σ2, t1, t2, t3⟩ := s_tab216 (nI j) (nI n1) (nI x) (nI n2) (nI y) aN 0 (sI σ1 57 0 0) (by omega) (by show 41 < 0 + 1000000; omega) (fun n' k' _ _ q => by omega)
    rw [if_pos c40', show f_X12_drift_216 aN (nI j) (nI n1) (nI x) (nI n2) (nI y) 0 (sI σ1 57 0 0) = _ from t1] at em
    have e340 : (if 0 ≤ ((nI x * nI n2) - (nI y * nI n1)) then f_X12_drift_340 (nI j) (nI n1) (nI x) (nI n2) (nI y) (nI x + nI y) ((nI x * nI n2) - (nI y * nI n1)) σ2 else f_X12_drift_340 (nI j) (nI n1) (nI x) (nI n2) (nI y) (nI x + nI y) (-((nI x * nI n2) - (nI y * nI n1))) σ2) = f_X12_drift_348 aN (nI j) (nI n1) (nI x) (nI n2) (nI y) (nI (x + y)) (xAb (nI n1) (nI n2) (nI x) (nI y)) 0 0 σ2 := by
      unfold f_X12_drift_340 xAb
      rw [nI_add]
      by_cases c : 0 ≤ ((nI x * nI n2) - (nI y * nI n1))
      · rw [if_pos c, if_pos c]
      · rw [if_neg c, if_neg c]
    rw [e340, show f_X12_drift_348 aN (nI j) (nI n1) (nI x) (nI n2) (nI y) (nI (x + y)) (xAb (nI n1) (nI n2) (nI x) (nI y)) 0 0 σ2 = _ from s_far348 c40 b3 b4 hj t3 aN 0 (by omega) (by show x + y + 1 < 0 + 1000000; omega)] at em
    exact ⟨_, σ1, σ2, ec, em, (hI1.thr 0).fr (t2.mono (fun _ _ q => q.elim))⟩
  · have c40' : ¬ nI (n1 + n2) ≤ 40 := by rw [show (40 : Int32) = nI 40 from rfl, nI_leI (by omega) (by omega)]; exact c40
    rw [if_neg c40'] at ec em
    exact ⟨_, σ1, sI σ1 57 0 0, ec, em, hI1.thr 0⟩
