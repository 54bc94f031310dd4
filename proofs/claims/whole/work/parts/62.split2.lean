/-! ===== the class's tokens, all of them ===== -/
section S2
variable {t : Nat → Nat} {n : Nat}
theorem isL_iff {c : Nat} : isL c = true ↔ 97 ≤ c ∧ c ≤ 122 := by
  unfold isL
  simp only [Bool.and_eq_true, decide_eq_true_iff]
theorem isF_iff {c : Nat} : isF c = true ↔ 48 ≤ c ∧ c ≤ 57 := by
  unfold isF
  simp only [Bool.and_eq_true, decide_eq_true_iff]
theorem bfalse {b : Bool} (h : ¬ b = true) : b = false := by
  cases b with
  | true => exact absurd rfl h
  | false => rfl
theorem en_L {i j : Nat} (hi : i < n) (hL : isL (t i) = true) (h1 : i ≤ j) (h2 : j < en t n i) : isL (t j) = true := by
  unfold en at h2
  rw [if_pos hL] at h2
  exact ru_all (by omega) h1 h2
theorem en_F {i j : Nat} (hi : i < n) (hF : isF (t i) = true) (h1 : i ≤ j) (h2 : j < en t n i) : isF (t j) = true := by
  have hL : isL (t i) = false := bfalse (fun q => by rw [isLF q] at hF; cases hF)
  unfold en at h2
  rw [if_neg (by rw [hL]; decide), if_pos hF] at h2
  exact ru_all (by omega) h1 h2
theorem s_takeT {τ : aSt} (h : tx t n τ) {i m : Nat} (hi : i < n) (hm : m ≤ 600) (e5 : gI τ 5 5 = nI m) : ∃ τ', f_X10_takeToken (nI i) (nI (en t n i)) τ = some ((), τ') ∧ Fr cSp τ τ' ∧ gI τ' 5 5 = nI (m + 1) ∧ ca t n m i τ' ∧ ∀ k, k < m → gI τ' 6 k = gI τ 6 k ∧ gI τ' 7 k = gI τ 7 k ∧ gI τ' 8 k = gI τ 8 k := by
  obtain ⟨q1, q2, q3, q4⟩ := h
  have er := en_rng (t := t) hi
  have h9 : gI τ 9 (nI i).toNatClampNeg = sb (t i) := by rw [ix_cl (by omega)]; exact q4 i hi
  have done : ∀ (a b : Int32), a = nI (Kt t n i) → b = Vt t n i → ∃ τ', (f_X10_keep a b (nI i) τ).bind (fun q => f_X10_takeToken_104 q.2) = some ((), τ') ∧ Fr cSp τ τ' ∧ gI τ' 5 5 = nI (m + 1) ∧ ca t n m i τ' ∧ ∀ k, k < m → gI τ' 6 k = gI τ 6 k ∧ gI τ' 7 k = gI τ 7 k ∧ gI τ' 8 k = gI τ 8 k := by
    intro a b ha hb
    obtain ⟨τ1, k1, k2, k3, k4, k5, k6, k7⟩ := s_keep hm e5 a b (nI i)
    refine ⟨τ1, ?_, k2, k3, ⟨k4.trans ha, k5.trans hb, k6⟩, k7⟩
    rw [k1]
    rfl
  unfold f_X10_takeToken
  rw [if_pos (ix_in (by omega) (by omega)), pk_sub (by omega)]
  have hne : ¬ i = n := by omega
  by_cases c6 : 6 < en t n i - i
  · rw [if_neg (show ¬ nI (en t n i - i) ≤ 6 by rw [show (6 : Int32) = nI 6 from rfl, nI_leI (by omega) (by omega)]; omega)]
    exact done 0 0 (by unfold Kt; rw [if_neg hne, if_pos c6]; rfl) (by unfold Vt; rw [if_neg hne, if_pos c6])
  rw [if_pos (show nI (en t n i - i) ≤ 6 by rw [show (6 : Int32) = nI 6 from rfl, nI_leI (by omega) (by omega)]; omega), h9, s_letC (q2 i hi), Option.bind_some]
  simp only [bI_0]
  have eK : Kt t n i = if isL (t i) then 1 else if isF (t i) then 2 else if isG (t i) then 3 else 0 := by
    unfold Kt
    rw [if_neg hne, if_neg c6]
  have eV : Vt t n i = if isL (t i) then nI (wd (cd (fun j => t (i + j)) (en t n i - i))) else if isF (t i) then nI (nmN (fun j => t (i + j)) (en t n i - i)) else sb (t i) := by
    unfold Vt
    rw [if_neg hne, if_neg c6]
  have ee : en t n i = i + (en t n i - i) := by omega
  by_cases cL : isL (t i) = true
  · rw [if_neg (by rw [cL]; decide)]
    have hw := s_wordAt (τ := τ) ⟨q1, q2, q3, q4⟩ (p := i) (len := en t n i - i) (by omega) (by omega) (by omega) (fun j hj => isL_iff.mp (en_L hi cL (by omega) (by omega)))
    rw [← ee] at hw
    rw [hw, Option.bind_some]
    exact done 1 _ (by rw [eK, if_pos cL]; rfl) (by rw [eV, if_pos cL])
  rw [if_pos (bfalse cL), s_figC (q2 i hi), Option.bind_some]
  simp only [bI_0]
  by_cases cF : isF (t i) = true
  · rw [if_neg (by rw [cF]; decide)]
    have hw := s_numAt (τ := τ) ⟨q1, q2, q3, q4⟩ (p := i) (len := en t n i - i) (by omega) (fun j hj => isF_iff.mp (en_F hi cF (by omega) (by omega)))
    rw [← ee] at hw
    rw [hw, Option.bind_some]
    exact done 2 _ (by rw [eK, if_neg cL, if_pos cF]; rfl) (by rw [eV, if_neg cL, if_pos cF])
  rw [if_pos (bfalse cF)]
  unfold f_X10_takeToken_94 f_X10_takeToken_99
  have eK2 : Kt t n i = if isG (t i) then 3 else 0 := by rw [eK, if_neg cL, if_neg cF]
  have eV2 : sb (t i) = Vt t n i := by rw [eV, if_neg cL, if_neg cF]
  have t256 := q2 i hi
  have sg : ∀ k : Nat, k < 128 → (sb (t i) = nI k ↔ t i = k) := fun k hk => sb_eq t256 hk
  have yes : isG (t i) = true → (3 : Int32) = nI (Kt t n i) := fun q => by rw [eK2, if_pos q]; rfl
  by_cases c1 : t i = 59
  · rw [if_pos (show sb (t i) = 59 from (sg 59 (by omega)).mpr c1)]
    exact done 3 _ (yes (by unfold isG; simp [c1])) eV2
  rw [if_neg (show ¬ sb (t i) = 59 from fun z => c1 ((sg 59 (by omega)).mp z))]
  by_cases c2 : t i = 60
  · rw [if_pos (show sb (t i) = 60 from (sg 60 (by omega)).mpr c2)]
    exact done 3 _ (yes (by unfold isG; simp [c2])) eV2
  rw [if_neg (show ¬ sb (t i) = 60 from fun z => c2 ((sg 60 (by omega)).mp z))]
  by_cases c3 : t i = 62
  · rw [if_pos (show sb (t i) = 62 from (sg 62 (by omega)).mpr c3)]
    exact done 3 _ (yes (by unfold isG; simp [c3])) eV2
  rw [if_neg (show ¬ sb (t i) = 62 from fun z => c3 ((sg 62 (by omega)).mp z))]
  by_cases c4 : t i = 61
  · rw [if_pos (show sb (t i) = 61 from (sg 61 (by omega)).mpr c4)]
    exact done 3 _ (yes (by unfold isG; simp [c4])) eV2
  rw [if_neg (show ¬ sb (t i) = 61 from fun z => c4 ((sg 61 (by omega)).mp z))]
  exact done 0 _ (by
    have : isG (t i) = false := by unfold isG; simp [c1, c2, c3, c4]
    rw [eK2, this]
    rfl) eV2
/-- all tokens in place -/
def toks (t : Nat → Nat) (n M : Nat) (τ : aSt) : Prop := M ≤ n ∧ ps t n M = n ∧ (∀ k, k < M → ps t n k < n) ∧ ∀ k, k ≤ M → ca t n k (ps t n k) τ
theorem s_splitL : ∀ (f i m : Nat) (τ : aSt), tx t n τ → i ≤ n → n < i + f → m ≤ i → gI τ 5 5 = nI m → sk t n i = ps t n m → (∀ k, k < m → ps t n k < n) → (∀ k, k < m → ca t n k (ps t n k) τ) → ∃ τ' M, f_X10_split_7 f (nI i) τ = some ((), τ') ∧ Fr cSp τ τ' ∧ toks t n M τ' := by
  intro f
  induction f with
  | zero => intro i m τ _ h1 h2; omega
  | succ f ih =>
    intro i m τ h h1 h2 hmi e5 hsk hlt hca
    have h0 := h
    obtain ⟨q1, q2, q3, q4⟩ := h
    show ∃ τ' M, f_X10_split_7_b (f_X10_split_7 f) (nI i) τ = _ ∧ _
    unfold f_X10_split_7_b
    rw [q3]
    by_cases z : i = n
    · subst z
      rw [if_pos (Int32.le_refl _)]
      obtain ⟨τ1, k1, k2, k3, k4, k5, k6, k7⟩ := s_keep (by omega) e5 4 0 (nI i)
      have ep : ps t i m = i := by rw [← hsk]; exact ru_n
      refine ⟨τ1, m, ?_, k2, hmi, ep, hlt, fun k hk => ?_⟩
      · rw [k1]
        rfl
      · by_cases ek : k = m
        · rw [ek, ep]
          exact ⟨by rw [k4]; unfold Kt; rw [if_pos rfl]; rfl, by rw [k5]; unfold Vt; rw [if_pos rfl], k6⟩
        · obtain ⟨y1, y2, y3⟩ := k7 k (by omega)
          obtain ⟨w1, w2, w3⟩ := hca k (by omega)
          exact ⟨y1.trans w1, y2.trans w2, y3.trans w3⟩
    have hi : i < n := by omega
    have er := en_rng (t := t) hi
    have h9 : gI τ 9 (nI i).toNatClampNeg = sb (t i) := by rw [ix_cl (by omega)]; exact q4 i hi
    have ib : inB (nI i) 600 := ix_in (by omega) (by omega)
    rw [if_neg (fun q => z (by rw [nI_leI (by omega) (by omega)] at q; omega)), if_pos ib, if_pos ib, h9]
    -- on, past this place
    have nxt : ∀ τ1, tx t n τ1 → f_X10_split_47 (f_X10_split_7 f) (nI i) τ1 = f_X10_split_7 f (nI (en t n i)) τ1 := fun τ1 ht1 => by
      unfold f_X10_split_47
      rw [s_endOf ht1 hi, Option.bind_some, nI_1]
      by_cases c : i + 1 < en t n i
      · rw [if_pos ((nI_ltI (by omega) (by omega)).mpr c)]
      · rw [if_neg (fun q => c ((nI_ltI (by omega) (by omega)).mp q)), show i + 1 = en t n i by omega]
    have spc : isP (t i) = true → ∃ τ' M, f_X10_split_47 (f_X10_split_7 f) (nI i) τ = some ((), τ') ∧ Fr cSp τ τ' ∧ toks t n M τ' := by
      intro hP
      obtain ⟨nl, nf⟩ := isLP hP
      have een : en t n i = i + 1 := by
        unfold en
        rw [nl, nf]
        rfl
      rw [nxt τ h0, een]
      refine ih (i + 1) m τ h0 (by omega) (by omega) (by omega) e5 ?_ hlt hca
      rw [← hsk]
      unfold sk
      rw [ru_s hi, if_pos hP]
    have t256 := q2 i hi
    by_cases c1 : t i = 32
    · rw [if_pos (show sb (t i) = 32 from (sb_eq t256 (k := 32) (by omega)).mpr c1)]
      exact spc (by unfold isP; simp [c1])
    rw [if_neg (show ¬ sb (t i) = 32 from fun w => c1 ((sb_eq t256 (k := 32) (by omega)).mp w))]
    by_cases c2 : t i = 10
    · rw [if_pos (show sb (t i) = 10 from (sb_eq t256 (k := 10) (by omega)).mpr c2)]
      exact spc (by unfold isP; simp [c2])
    rw [if_neg (show ¬ sb (t i) = 10 from fun w => c2 ((sb_eq t256 (k := 10) (by omega)).mp w))]
    have nP : isP (t i) = false := by unfold isP; simp [c1, c2]
    have ei : ps t n m = i := by
      rw [← hsk]
      unfold sk
      rw [ru_s hi, nP]
      rfl
    rw [s_endOf h0 hi, Option.bind_some]
    obtain ⟨τ1, k1, k2, k3, k4, k5⟩ := s_takeT h0 hi (show m ≤ 600 by omega) e5
    rw [k1, Option.bind_some, nxt τ1 (h0.fr k2)]
    obtain ⟨τ2, M, b1, b2, b3⟩ := ih (en t n i) (m + 1) τ1 (h0.fr k2) (by omega) (by omega) (by omega) k3 (by
      show _ = (if ps t n m = n then n else sk t n (en t n (ps t n m)))
      rw [ei, if_neg (by omega)]) (fun k hk => by
      by_cases ek : k = m
      · rw [ek, ei]; exact hi
      · exact hlt k (by omega)) (fun k hk => by
      by_cases ek : k = m
      · rw [ek, ei]; exact k4
      · obtain ⟨y1, y2, y3⟩ := k5 k (by omega)
        obtain ⟨w1, w2, w3⟩ := hca k (by omega)
        exact ⟨y1.trans w1, y2.trans w2, y3.trans w3⟩)
    exact ⟨τ2, M, b1, k2.tr b2, b3⟩
theorem s_split {τ : aSt} (h : tx t n τ) : ∃ τ' M, f_X10_split τ = some ((), τ') ∧ Fr cSp τ τ' ∧ toks t n M τ' := by
  have f0 : Fr cSp τ (sI τ 5 5 0) := Fr.sI Fr.rf (Or.inr ⟨rfl, rfl⟩)
  have hn := h.1
  obtain ⟨τ', M, a1, a2, a3⟩ := s_splitL aN 0 0 (sI τ 5 5 0) (h.fr f0) (by omega) (by show n < 0 + 1000000; omega) (by omega) (gI_same _ _ _ _) rfl (fun k hk => absurd hk (Nat.not_lt_zero _)) (fun k hk => absurd hk (Nat.not_lt_zero _))
  exact ⟨τ', M, a1, f0.tr a2, a3⟩
end S2
