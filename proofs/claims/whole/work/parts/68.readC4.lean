/-! ===== statement after statement: what stands, and the class's way ===== -/
section V0
variable {t : Nat → Nat} {n : Nat}
theorem pnum_0 {lo hi : Int32} {p : Nat} (h : pnum t n lo hi p = 0) : Kt t n p = 2 ∧ lo ≤ Vt t n p ∧ Vt t n p ≤ hi := by
  unfold pnum at h
  by_cases c : Kt t n p = 2
  · rw [if_pos c] at h
    by_cases d : lo ≤ Vt t n p ∧ Vt t n p ≤ hi
    · exact ⟨c, d⟩
    · rw [if_neg d] at h; omega
  · rw [if_neg c] at h; omega
theorem okW_1 {p k : Nat} (h : okW t n p k = true) : Kt t n p = 1 ∧ Vt t n p = nI k := by
  unfold okW at h
  simp only [Bool.and_eq_true, decide_eq_true_iff] at h
  exact h
theorem okE_3 {p : Nat} (h : okE t n p = true) : Kt t n p = 3 ∧ Vt t n p = 59 := by
  unfold okE at h
  simp only [Bool.and_eq_true, decide_eq_true_iff] at h
  exact h
theorem ptf_0 {p : Nat} (hp : p ≤ n) (h : (ptf t n p).1 = 0) : p < n ∧ nx t n p < n ∧ nx t n (nx t n p) < n ∧ okF t n p = true ∧ okS t n (nx t n p) = true ∧ pnum t n 0 999999 (nx t n (nx t n p)) = 0 := by
  by_cases c : okF t n p = true
  · have k1 : Kt t n p = 1 := by
      unfold okF at c
      simp only [Bool.and_eq_true, decide_eq_true_iff] at c
      exact c.1
    have hne := (Kt_1 k1).1
    have hn1 := nx_rng (t := t) (show p < n by omega)
    by_cases d : okS t n (nx t n p) = true
    · have k3 : Kt t n (nx t n p) = 3 := by
        unfold okS at d
        simp only [Bool.and_eq_true, decide_eq_true_iff] at d
        exact d.1
      have hne3 := (Kt_3 k3).1
      have hn2 := nx_rng (t := t) (show nx t n p < n by omega)
      rw [ptf_N c d] at h
      have k2 := (Kt_2 (pnum_0 h).1).1
      exact ⟨by omega, by omega, by omega, c, d, h⟩
    · rw [ptf_S c (bfalse d)] at h
      exact absurd h (by show ¬ (1 : Nat) = 0; decide)
  · rw [ptf_F (bfalse c)] at h
    exact absurd h (by show ¬ (1 : Nat) = 0; decide)
theorem plp_s {p0 d j : Nat} : plp t n p0 (d + 1) j = if (ptf t n (tq t n p0 j)).1 = 0 then (if okW t n (ptn t n (tq t n p0 j)) 6 then plp t n p0 d (j + 1) else if okE t n (ptn t n (tq t n p0 j)) then (0, nx t n (ptn t n (tq t n p0 j)), j + 1) else (1, ptn t n (tq t n p0 j), j + 1)) else ((ptf t n (tq t n p0 j)).1, (ptf t n (tq t n p0 j)).2, j) := rfl
theorem plp_ok {p0 : Nat} : ∀ d j, d + j = 4 → tq t n p0 j ≤ n → (plp t n p0 d j).1 = 0 → tq t n p0 j < (plp t n p0 d j).2.1 ∧ (plp t n p0 d j).2.1 ≤ n ∧ j < (plp t n p0 d j).2.2 ∧ (plp t n p0 d j).2.2 ≤ 4 ∧ ∀ i, j ≤ i → i < (plp t n p0 d j).2.2 → (ptf t n (tq t n p0 i)).1 = 0 ∧ tq t n p0 i ≤ n
  | 0, j, _, _, h => absurd h (by show ¬ (3 : Nat) = 0; decide)
  | d + 1, j, hd, hq, h => by
    rw [plp_s] at h ⊢
    by_cases c : (ptf t n (tq t n p0 j)).1 = 0
    · rw [if_pos c] at h ⊢
      obtain ⟨q1, q2, q3, -⟩ := ptf_0 hq c
      have r1 := nx_rng (t := t) q1
      have r2 := nx_rng (t := t) q2
      have r3 := nx_rng (t := t) q3
      have eptn : ptn t n (tq t n p0 j) = nx t n (nx t n (nx t n (tq t n p0 j))) := rfl
      by_cases w : okW t n (ptn t n (tq t n p0 j)) 6 = true
      · rw [if_pos w] at h ⊢
        have hne := (Kt_1 (okW_1 w).1).1
        have r4 := nx_rng (t := t) (show ptn t n (tq t n p0 j) < n by omega)
        have etq : tq t n p0 (j + 1) = nx t n (ptn t n (tq t n p0 j)) := rfl
        obtain ⟨i1, i2, i3, i4, i5⟩ := plp_ok (p0 := p0) d (j + 1) (by omega) (by omega) h
        refine ⟨by omega, i2, by omega, i4, fun i hi1 hi2 => ?_⟩
        by_cases e : i = j
        · rw [e]; exact ⟨c, hq⟩
        · exact i5 i (by omega) hi2
      · rw [if_neg w] at h ⊢
        by_cases e : okE t n (ptn t n (tq t n p0 j)) = true
        · rw [if_pos e]
          have hne := (Kt_3 (okE_3 e).1).1
          have r4 := nx_rng (t := t) (show ptn t n (tq t n p0 j) < n by omega)
          refine ⟨by show _ < nx t n (ptn t n (tq t n p0 j)); omega, r4.2, by show j < j + 1; omega, by show j + 1 ≤ 4; omega, fun i hi1 hi2 => ?_⟩
          have hi2 : i < j + 1 := hi2
          rw [show i = j by omega]
          exact ⟨c, hq⟩
        · rw [if_neg e] at h
          exact absurd h (by show ¬ (1 : Nat) = 0; decide)
    · rw [if_neg c] at h
      exact absurd h c
/-- what stands is in bounds -/
def vD (t : Nat → Nat) (n : Nat) (lim : Nat → Int32) (R : Nat) (wp cn : Nat → Nat) : Prop := R ≤ 12 ∧ (∀ k, k < 4 → loL k ≤ lim k ∧ lim k ≤ hiL k) ∧ ∀ r, r < R → (1 ≤ Vt t n (wp r) ∧ Vt t n (wp r) ≤ 1000) ∧ 1 ≤ cn r ∧ cn r ≤ 4 ∧ ∀ j, j < cn r → 7 ≤ Vt t n (tq t n (nx t n (nx t n (wp r))) j) ∧ Vt t n (tq t n (nx t n (nx t n (wp r))) j) ≤ 16
theorem plim_ok {k p : Nat} (hp : p < n) (h : (plim t n k p).1 = 0) : pnum t n (loL k) (hiL k) (nx t n p) = 0 ∧ p < (plim t n k p).2 ∧ (plim t n k p).2 ≤ n := by
  unfold plim at h ⊢
  by_cases c : pnum t n (loL k) (hiL k) (nx t n p) = 0
  · rw [if_pos c] at h ⊢
    have r1 := nx_rng (t := t) hp
    have h2 := (Kt_2 (pnum_0 c).1).1
    have r2 := nx_rng (t := t) (show nx t n p < n by omega)
    by_cases d : okE t n (nx t n (nx t n p)) = true
    · rw [if_pos d]
      have h3 := (Kt_3 (okE_3 d).1).1
      have r3 := nx_rng (t := t) (show nx t n (nx t n p) < n by omega)
      exact ⟨c, by show p < nx t n (nx t n (nx t n p)); omega, r3.2⟩
    · rw [if_neg d] at h
      exact absurd h (by show ¬ (1 : Nat) = 0; decide)
  · rw [if_neg c] at h
    exact absurd h c
theorem prul_ok {R p : Nat} (hp : p < n) (h : (prul t n R p).1 = 0) : R < 12 ∧ pnum t n 1 1000 (nx t n p) = 0 ∧ p < (prul t n R p).2.1 ∧ (prul t n R p).2.1 ≤ n ∧ 1 ≤ (prul t n R p).2.2 ∧ (prul t n R p).2.2 ≤ 4 ∧ ∀ j, j < (prul t n R p).2.2 → okF t n (tq t n (nx t n (nx t n (nx t n p))) j) = true := by
  unfold prul at h ⊢
  by_cases c12 : 12 ≤ R
  · rw [if_pos c12] at h
    exact absurd h (by show ¬ (3 : Nat) = 0; decide)
  rw [if_neg c12] at h ⊢
  by_cases c : pnum t n 1 1000 (nx t n p) = 0
  · rw [if_pos c] at h ⊢
    have r1 := nx_rng (t := t) hp
    have h2 := (Kt_2 (pnum_0 c).1).1
    have r2 := nx_rng (t := t) (show nx t n p < n by omega)
    by_cases d : okW t n (nx t n (nx t n p)) 5 = true
    · rw [if_pos d] at h ⊢
      have h3 := (Kt_1 (okW_1 d).1).1
      have r3 := nx_rng (t := t) (show nx t n (nx t n p) < n by omega)
      obtain ⟨i1, i2, i3, i4, i5⟩ := plp_ok (p0 := nx t n (nx t n (nx t n p))) 4 0 rfl r3.2 h
      have e0 : tq t n (nx t n (nx t n (nx t n p))) 0 = nx t n (nx t n (nx t n p)) := rfl
      rw [e0] at i1
      exact ⟨by omega, c, by omega, i2, i3, i4, fun j hj => (ptf_0 (i5 j (Nat.zero_le _) hj).2 (i5 j (Nat.zero_le _) hj).1).2.2.2.1⟩
    · rw [if_neg d] at h
      exact absurd h (by show ¬ (1 : Nat) = 0; decide)
  · rw [if_neg c] at h
    exact absurd h c
/-- a good statement goes on, and keeps what stands in bounds -/
theorem sF_ok {lim : Nat → Int32} {R p : Nat} {wp cn : Nat → Nat} (hp : p < n) (hv : vD t n lim R wp cn) (h : (sF t n R p).1 = 0) : p < (sF t n R p).2 ∧ (sF t n R p).2 ≤ n ∧ vD t n (sLim t n p lim) (sR' t n p R) (sWp t n p R wp) (sCn t n p R cn) := by
  obtain ⟨v1, v2, v3⟩ := hv
  unfold sF at h ⊢
  unfold sLim sR' sWp sCn
  by_cases c : okL t n p = true
  · rw [if_pos c] at h ⊢
    simp only [if_pos c]
    obtain ⟨a1, a2, a3⟩ := plim_ok hp h
    obtain ⟨b1, b2, b3⟩ := pnum_0 a1
    refine ⟨a2, a3, v1, fun k hk => ?_, v3⟩
    by_cases e : k = lk t n p
    · rw [e, up_same]; exact ⟨b2, b3⟩
    · rw [up_other e]; exact v2 k hk
  · rw [if_neg c] at h ⊢
    simp only [if_neg c]
    by_cases d : okW t n p 4 = true
    · rw [if_pos d] at h ⊢
      obtain ⟨a0, a1, a2, a3, a4, a5, a6⟩ := prul_ok hp h
      obtain ⟨b1, b2, b3⟩ := pnum_0 a1
      refine ⟨a2, a3, by omega, v2, fun r hr => ?_⟩
      by_cases e : r = R
      · rw [e, up_same, up_same]
        refine ⟨⟨b2, b3⟩, a4, a5, fun j hj => ?_⟩
        have := a6 j hj
        unfold okF at this
        simp only [Bool.and_eq_true, decide_eq_true_iff] at this
        exact this.2
      · rw [up_other e, up_other e]
        exact v3 r (by omega)
    · rw [if_neg d] at h
      exact absurd h (by show ¬ (1 : Nat) = 0; decide)
end V0
section C4
variable {t : Nat → Nat} {n M b : Nat} {τ : aSt}
theorem rowC.fr {C : Nat → Nat → Prop} {τ' : aSt} {r w p0 c : Nat} (h : rowC t n b r w p0 c τ) (f : Fr C τ τ') (hc4 : c ≤ 4) (h1 : ¬ C (b + 2) r) (h2 : ¬ C (b + 3) r) (h3 : ∀ x k, b + 4 ≤ x → x ≤ b + 6 → 4 * r ≤ k → k < 4 * r + 4 → ¬ C x k) : rowC t n b r w p0 c τ' := by
  refine ⟨by rw [f.2.1 _ _ h1]; exact h.1, by rw [f.2.1 _ _ h2]; exact h.2.1, fun j hj => ?_⟩
  rw [f.2.1 _ _ (h3 (b + 4) _ (by omega) (by omega) (by omega) (by omega)), f.2.1 _ _ (h3 (b + 5) _ (by omega) (by omega) (by omega) (by omega)), f.2.1 _ _ (h3 (b + 6) _ (by omega) (by omega) (by omega) (by omega))]
  exact h.2.2 j hj
theorem s_stC (hb : b = 12 ∨ b = 34) (hg : 84 ≤ gN τ) (hr : gR τ 10 3 = some b) {lim : Nat → Int32} {R : Nat} {wp cn : Nat → Nat} {a p : Nat} (hv : vD t n lim R wp cn) (hk : bkC t n b lim R wp cn τ) (h : cP t n M a p τ) (hp : p < n) : ((sF t n R p).1 = 0 ∧ ∃ τ' a', f_X6_readStatement τ = some (1, τ') ∧ Fr (cRd b) τ τ' ∧ cP t n M a' (sF t n R p).2 τ' ∧ bkC t n b (sLim t n p lim) (sR' t n p R) (sWp t n p R wp) (sCn t n p R cn) τ') ∨ ((sF t n R p).1 ≠ 0 ∧ ∃ τ', f_X6_readStatement τ = some (0, τ') ∧ Fr (cRd b) τ τ' ∧ flt (sF t n R p).1 (sF t n R p).2 τ') := by
  have h6 := h.2.2.2.2.2.1
  have h7 := h.2.2.2.2.2.2
  obtain ⟨bk1, bk2, bk3⟩ := hk
  unfold f_X6_readStatement
  rw [h6, h7]
  by_cases c : okL t n p = true
  · obtain ⟨l1, l2, l3⟩ := okL_k c
    have eS : sF t n R p = plim t n (lk t n p) p := by unfold sF; rw [if_pos c]
    have d : 0 ≤ Vt t n p ∧ Vt t n p ≤ 3 := by
      unfold okL at c
      simp only [Bool.and_eq_true, decide_eq_true_iff] at c
      exact c.2
    rw [if_pos (K1_iff.mpr l1), s_within, Option.bind_some]
    simp only [bI_0, decide_eq_false_iff_not]
    rw [if_neg (not_not_intro d), h7, l3, eS]
    rcases s_limC hb hg hr l2 h hp with ⟨y0, τ1, a1, y1, y2, y3, y4⟩ | ⟨y0, τ1, y1, y2, y3⟩
    · rw [y1, Option.bind_some]
      refine Or.inl ⟨y0, τ1, a1, if_pos v1_ok, y2.mono (fun a k q => ?_), y3, ?_⟩
      · rcases q with q | q
        · exact Or.inl q
        · exact Or.inr (by omega)
      · unfold sLim sR' sWp sCn
        simp only [if_pos c]
        refine ⟨by rw [y2.2.1 b 1 (by unfold cGo; omega)]; exact bk1, fun k hk => ?_, fun r hr2 => ?_⟩
        · by_cases e : k = lk t n p
          · rw [e, up_same]; exact y4
          · rw [up_other e, y2.2.1 (b + 1) k (by unfold cGo; omega)]
            exact bk2 k hk
        · exact (bk3 r hr2).fr y2 (hv.2.2 r hr2).2.2.1 (by unfold cGo; omega) (by unfold cGo; omega) (fun x k q1 q2 _ _ => by unfold cGo; omega)
    · rw [y1, Option.bind_some]
      refine Or.inr ⟨y0, τ1, if_pos v0_ok, y2.mono (fun a k q => ?_), y3⟩
      rcases q with q | q
      · exact Or.inl q
      · exact Or.inr (by omega)
  · have e29 : (if nI (Kt t n p) = 1 then (f_X11_within (Vt t n p) 0 3 τ).bind (fun q2 => (if q2.1 = 0 then f_X6_readStatement_29 q2.2 else (f_X6_readLimit (gI q2.2 10 6) q2.2).bind (fun q5 => (if q5.1 &&& 1 = q5.1 then some (q5.1, q5.2) else none)))) else f_X6_readStatement_29 τ) = f_X6_readStatement_29 τ := by
      by_cases k1 : Kt t n p = 1
      · rw [if_pos (K1_iff.mpr k1), s_within, Option.bind_some]
        simp only [bI_0, decide_eq_false_iff_not]
        have d : ¬ (0 ≤ Vt t n p ∧ Vt t n p ≤ 3) := fun z => c (by unfold okL; rw [← Bool.decide_and, decide_eq_true z, decide_eq_true k1]; rfl)
        rw [if_pos d]
      · rw [if_neg (fun z => k1 (K1_iff.mp z))]
    rw [e29]
    unfold f_X6_readStatement_29 f_X6_readStatement_49
    rw [show f_X6_isWord 4 τ = _ from s_isWd (k := 4) h, Option.bind_some]
    simp only [bI_0]
    by_cases d : okW t n p 4 = true
    · have eS : sF t n R p = ((prul t n R p).1, (prul t n R p).2.1) := by unfold sF; rw [if_neg c, if_pos d]
      rw [if_neg (show ¬ okW t n p 4 = false by rw [d]; decide), eS]
      rcases s_ruleC hb hg hr hv.1 bk1 h hp with ⟨y0, τ1, a1, y1, y2, y3, y4, y5, y6⟩ | ⟨y0, τ1, y1, y2, y3⟩
      · rw [y1, Option.bind_some]
        refine Or.inl ⟨y0, τ1, a1, if_pos v1_ok, y3.mono (fun a k q => ?_), y4, ?_⟩
        · unfold cRu at q
          rcases q with q | q | q | q
          · exact Or.inl q
          · exact Or.inr (by omega)
          · exact Or.inr (by omega)
          · exact Or.inr (by omega)
        · unfold sLim sR' sWp sCn
          simp only [if_neg c]
          refine ⟨y5, fun k hk => by rw [y3.2.1 (b + 1) k (by unfold cRu cGo; omega)]; exact bk2 k hk, fun r hr2 => ?_⟩
          by_cases e : r = R
          · rw [e, up_same, up_same]; exact y6
          · rw [up_other e, up_other e]
            have hr3 : r < R := by omega
            exact (bk3 r hr3).fr y3 (hv.2.2 r hr3).2.2.1 (by unfold cRu cGo; omega) (by unfold cRu cGo; omega) (fun x k q1 q2 q3 q4 => by unfold cRu cGo; omega)
      · rw [y1, Option.bind_some]
        exact Or.inr ⟨y0, τ1, if_pos v0_ok, y2, y3⟩
    · have eS : sF t n R p = (1, p) := by unfold sF; rw [if_neg c, if_neg d]
      rw [if_pos (bfalse d), eS]
      obtain ⟨τ1, w1, w2, w3⟩ := s_fail h 1
      rw [show f_X6_fail 1 τ = _ from w1, Option.bind_some]
      exact Or.inr ⟨by show (1 : Nat) ≠ 0; decide, τ1, if_pos v0_ok, w2.mono (fun a k q => Or.inl q), w3⟩
theorem s_rdC (hb : b = 12 ∨ b = 34) : ∀ (f F i p a : Nat) (τ : aSt) (lim : Nat → Int32) (R : Nat) (wp cn : Nat → Nat), n - p < f → n - p < F → i + (n - p) ≤ 600 → 84 ≤ gN τ → gR τ 10 3 = some b → vD t n lim R wp cn → bkC t n b lim R wp cn τ → cP t n M a p τ → ((rd t n f p lim R wp cn).1.1 = 0 ∧ ∃ τ', f_X6_read_26 F (nI i) τ = some (1, τ') ∧ Fr (cRd b) τ τ' ∧ bkC t n b (rd t n f p lim R wp cn).2.1 (rd t n f p lim R wp cn).2.2.1 (rd t n f p lim R wp cn).2.2.2.1 (rd t n f p lim R wp cn).2.2.2.2 τ' ∧ vD t n (rd t n f p lim R wp cn).2.1 (rd t n f p lim R wp cn).2.2.1 (rd t n f p lim R wp cn).2.2.2.1 (rd t n f p lim R wp cn).2.2.2.2) ∨ ((rd t n f p lim R wp cn).1.1 ≠ 0 ∧ ∃ τ', f_X6_read_26 F (nI i) τ = some (0, τ') ∧ Fr (cRd b) τ τ' ∧ flt (rd t n f p lim R wp cn).1.1 (rd t n f p lim R wp cn).1.2 τ') := by
  intro f
  induction f with
  | zero => intro F i p a τ lim R wp cn h1; omega
  | succ f ih =>
    intro F i p a τ lim R wp cn h1 h2 h3 hg hr hv hk h
    obtain ⟨F, rfl⟩ : ∃ F', F = F' + 1 := ⟨F - 1, by omega⟩
    have hle := h.le
    have er : rd t n (f + 1) p lim R wp cn = if p = n then ((0, p), lim, R, wp, cn) else if (sF t n R p).1 = 0 then rd t n f (sF t n R p).2 (sLim t n p lim) (sR' t n p R) (sWp t n p R wp) (sCn t n p R cn) else (sF t n R p, lim, R, wp, cn) := rfl
    rw [er]
    have e26 : f_X6_read_26 (F + 1) (nI i) τ = f_X6_read_26_b (f_X6_read_26 F) (nI i) τ := rfl
    rw [e26]
    unfold f_X6_read_26_b f_X6_read_56
    rw [h.2.2.2.2.2.1]
    by_cases z : p = n
    · have h4 : nI (Kt t n p) = 4 := by rw [z, Kt_n]; rfl
      rw [if_pos z, if_pos h4]
      refine Or.inl ⟨rfl, τ, ?_, Fr.rf, hk, hv⟩
      split <;> rfl
    have hp : p < n := by omega
    have h4 : ¬ nI (Kt t n p) = 4 := fun w => by
      have w' := nI_inj (by have := Kt_le (t := t) (n := n) p; omega) (by omega) (show nI (Kt t n p) = nI 4 from w)
      unfold Kt at w'
      rw [if_neg z] at w'
      repeat' split at w'
      all_goals omega
    rw [if_neg z, if_neg (show ¬ (600 : Int32) ≤ nI i by rw [show (600 : Int32) = nI 600 from rfl, nI_leI (by omega) (by omega)]; omega), if_neg h4]
    rcases s_stC hb hg hr hv hk h hp with ⟨y0, τ1, a1, y1, y2, y3, y4⟩ | ⟨y0, τ1, y1, y2, y3⟩
    · obtain ⟨o1, o2, o3⟩ := sF_ok hp hv y0
      rw [if_pos y0, y1, Option.bind_some, if_neg (show ¬ (1 : Int32) = 0 by decide), nI_1]
      rcases ih F (i + 1) (sF t n R p).2 a1 τ1 _ _ _ _ (by omega) (by omega) (by omega) (by rw [y2.1]; exact hg) (by rw [y2.2.2 10 3 (by unfold cRd cGo; omega)]; exact hr) o3 y4 y3 with ⟨w0, τ2, w1, w2, w3⟩ | ⟨w0, τ2, w1, w2, w3⟩
      · exact Or.inl ⟨w0, τ2, w1, y2.tr w2, w3⟩
      · exact Or.inr ⟨w0, τ2, w1, y2.tr w2, w3⟩
    · rw [if_neg y0, y1, Option.bind_some, if_pos (show (0 : Int32) = 0 from rfl)]
      exact Or.inr ⟨y0, τ1, rfl, y2, y3⟩
end C4
