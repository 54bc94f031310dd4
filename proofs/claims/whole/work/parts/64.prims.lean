/-! ===== what both readers look at ===== -/
section PR
variable (t : Nat → Nat) (n : Nat)
def nx (p : Nat) : Nat := sk t n (en t n p)
def isW (p k : Nat) : Prop := Kt t n p = 1 ∧ Vt t n p = nI k
def pnum (lo hi : Int32) (p : Nat) : Nat := if Kt t n p = 2 then (if lo ≤ Vt t n p ∧ Vt t n p ≤ hi then 0 else 2) else 1
def cw (p : Nat) : Nat := if Kt t n p = 1 then cd (fun j => t (p + j)) (en t n p - p) else 0
def fe (p : Nat) : Int32 := if Kt t n p = 1 ∧ 7 ≤ Vt t n p ∧ Vt t n p ≤ 16 then Vt t n p - 7 else -1000000
end PR
section PM
variable {t : Nat → Nat} {n : Nat} {τ : aSt}
theorem Kt_1 {p : Nat} (h : Kt t n p = 1) : p ≠ n ∧ en t n p - p ≤ 6 ∧ isL (t p) = true ∧ Vt t n p = nI (wd (cd (fun j => t (p + j)) (en t n p - p))) := by
  unfold Kt at h
  by_cases c1 : p = n
  · rw [if_pos c1] at h; omega
  rw [if_neg c1] at h
  by_cases c2 : 6 < en t n p - p
  · rw [if_pos c2] at h; omega
  rw [if_neg c2] at h
  by_cases c3 : isL (t p) = true
  · refine ⟨c1, by omega, c3, ?_⟩
    unfold Vt
    rw [if_neg c1, if_neg c2, if_pos c3]
  · rw [if_neg c3] at h
    split at h
    · omega
    · split at h <;> omega
theorem Kt_2 {p : Nat} (h : Kt t n p = 2) : p ≠ n ∧ en t n p - p ≤ 6 ∧ isF (t p) = true ∧ Vt t n p = nI (nmN (fun j => t (p + j)) (en t n p - p)) := by
  unfold Kt at h
  by_cases c1 : p = n
  · rw [if_pos c1] at h; omega
  rw [if_neg c1] at h
  by_cases c2 : 6 < en t n p - p
  · rw [if_pos c2] at h; omega
  rw [if_neg c2] at h
  by_cases c3 : isL (t p) = true
  · rw [if_pos c3] at h; omega
  rw [if_neg c3] at h
  by_cases c4 : isF (t p) = true
  · refine ⟨c1, by omega, c4, ?_⟩
    unfold Vt
    rw [if_neg c1, if_neg c2, if_neg c3, if_pos c4]
  · rw [if_neg c4] at h
    split at h <;> omega
theorem Kt_3 {p : Nat} (h : Kt t n p = 3) : p ≠ n ∧ (t p = 59 ∨ t p = 60 ∨ t p = 62 ∨ t p = 61) ∧ Vt t n p = nI (t p) := by
  unfold Kt at h
  by_cases c1 : p = n
  · rw [if_pos c1] at h; omega
  rw [if_neg c1] at h
  by_cases c2 : 6 < en t n p - p
  · rw [if_pos c2] at h; omega
  rw [if_neg c2] at h
  by_cases c3 : isL (t p) = true
  · rw [if_pos c3] at h; omega
  rw [if_neg c3] at h
  by_cases c4 : isF (t p) = true
  · rw [if_pos c4] at h; omega
  rw [if_neg c4] at h
  by_cases c5 : isG (t p) = true
  · have g := c5
    unfold isG at g
    simp only [Bool.or_eq_true, decide_eq_true_iff] at g
    refine ⟨c1, by omega, ?_⟩
    unfold Vt
    rw [if_neg c1, if_neg c2, if_neg c3, if_neg c4, sb_lo (by omega)]
  · rw [if_neg c5] at h; omega
theorem Kt_n : Kt t n n = 4 := by unfold Kt; rw [if_pos rfl]
theorem Kt_le (p : Nat) : Kt t n p ≤ 4 := by
  unfold Kt
  repeat' split
  all_goals omega
theorem mK_inj {K : Nat} (h : K ≤ 4) : (nI (mK K) = 2 ↔ K = 1) ∧ (nI (mK K) = 3 ↔ K = 2) ∧ (nI (mK K) = 4 ↔ K = 3) ∧ (nI (mK K) = 1 ↔ K = 4) := by
  rcases (by omega : K = 0 ∨ K = 1 ∨ K = 2 ∨ K = 3 ∨ K = 4) with q | q | q | q | q <;> subst q <;> decide
theorem nx_rng {p : Nat} (hp : p < n) : p < nx t n p ∧ nx t n p ≤ n := by
  have h1 := en_rng (t := t) hp
  have h2 := sk_rng (t := t) h1.2
  unfold nx
  omega
theorem cd_lt {b : Nat → Nat} : ∀ k, (∀ j, j < k → b j < 256) → cd b k < 256 ^ k
  | 0, _ => by show 0 < 1; omega
  | k + 1, h => by
    have h1 := cd_lt (b := b) k (fun j hj => h j (by omega))
    have h2 := h k (by omega)
    show cd b k * 256 + b k < 256 ^ (k + 1)
    rw [Nat.pow_succ]
    omega
theorem cw_lt (h : txM t n τ) {p : Nat} (hp : p ≤ n) : cw t n p < 281474976710656 := by
  unfold cw
  by_cases c : Kt t n p = 1
  · rw [if_pos c]
    obtain ⟨k1, k2, k3, -⟩ := Kt_1 c
    have er := en_rng (t := t) (show p < n by omega)
    have l := cd_lt (b := fun j => t (p + j)) (en t n p - p) (fun j hj => h.2.1 (p + j) (by omega))
    have : 256 ^ (en t n p - p) ≤ 256 ^ 6 := Nat.pow_le_pow_right (by omega) k2
    omega
  · rw [if_neg c]
    omega
theorem s_word (h : txM t n τ) {p : Nat} (hp : p ≤ n) (hm : mP t n p τ) : f_X12_word τ = some (wL (cw t n p), τ) := by
  obtain ⟨h1, h2, h3, h4⟩ := h
  obtain ⟨m1, m2, m3, m4⟩ := hm
  unfold f_X12_word cw
  rw [m1]
  have kl := (mK_inj (Kt_le (t := t) (n := n) p)).1
  by_cases c : Kt t n p = 1
  · rw [if_pos c]
    obtain ⟨k1, k2, k3, -⟩ := Kt_1 c
    have hpn : p < n := by omega
    have er := en_rng (t := t) hpn
    have eM : mE t n p = en t n p := by unfold mE; rw [if_neg k1]
    have loop : ∀ (f j : Nat), p + j ≤ en t n p → en t n p < p + j + f → f_X12_word_7 f (wL (cd (fun j => t (p + j)) j)) (nI (p + j)) τ = some (wL (cd (fun j => t (p + j)) (en t n p - p)), τ) := by
      intro f
      induction f with
      | zero => intro j q1 q2; omega
      | succ f ih =>
        intro j q1 q2
        show f_X12_word_7_b (f_X12_word_7 f) (wL (cd (fun j => t (p + j)) j)) (nI (p + j)) τ = _
        unfold f_X12_word_7_b f_X12_word_42
        rw [m3, eM]
        by_cases e : p + j = en t n p
        · rw [e, if_pos (Int32.le_refl _), show j = en t n p - p by omega]
        · have l := cd_lt (b := fun j => t (p + j)) j (fun i hi => h2 (p + i) (by omega))
          have lj : 256 ^ j ≤ 256 ^ 5 := Nat.pow_le_pow_right (by omega) (by omega)
          rw [if_neg (fun q => by rw [nI_leI (by omega) (by omega)] at q; omega), m2, if_pos (kl.mpr c), if_pos (ix_in (by omega) (by omega)), ix_cl (by omega), h4 (p + j) (by omega), wL_sh (by omega) (h2 (p + j) (by omega)), nI_1, Nat.add_assoc p j 1]
          exact ih (j + 1) (by omega) (by omega)
    exact loop aN 0 (by omega) (by show en t n p < p + 0 + 1000000; omega)
  · rw [if_neg c]
    show f_X12_word_7_b (f_X12_word_7 999999) 0 (nI p) τ = _
    unfold f_X12_word_7_b f_X12_word_42
    rw [m2, if_neg (fun q => c (kl.mp q))]
    split
    · rfl
    · rfl
theorem WC_rng : ∀ k, k < 17 → 1 ≤ WC k ∧ WC k < 281474976710656 := by decide +kernel
theorem s_isW (h : txM t n τ) {p k : Nat} (hp : p ≤ n) (hk : k < 17) {C : Int64} (hC : C = wL (WC k)) : (lg_cmp (wL (cw t n p)) C = 0) = isW t n p k := by
  rw [lc_eq, hC]
  have b1 := cw_lt h hp
  have b2 := WC_rng k hk
  have e : (wL (cw t n p) = wL (WC k)) ↔ cw t n p = WC k := by
    rw [pl_eq, wL_toInt (by omega), wL_toInt (by omega)]
    omega
  apply propext
  rw [e]
  unfold isW cw
  by_cases c : Kt t n p = 1
  · rw [if_pos c]
    obtain ⟨-, -, -, k4⟩ := Kt_1 c
    rw [k4]
    have wl := wd_le (cd (fun j => t (p + j)) (en t n p - p))
    constructor
    · intro q
      exact ⟨c, by rw [(wd_iff hk).mpr q]⟩
    · intro ⟨_, q⟩
      exact (wd_iff hk).mp (nI_inj (by omega) (by omega) q)
  · rw [if_neg c]
    constructor
    · intro q; omega
    · intro q; exact absurd q.1 c
theorem s_fe (h : txM t n τ) {p : Nat} (hp : p ≤ n) (hm : mP t n p τ) : f_X12_featureOfWord τ = some (fe t n p, τ) := by
  unfold f_X12_featureOfWord f_X12_featureOfWord_131
  rw [s_word h hp hm, Option.bind_some]
  have e7 : (lg_cmp (wL (cw t n p)) 107122649296500 = 0) = (Kt t n p = 1 ∧ Vt t n p = nI 7) := s_isW h hp (show 7 < 17 by omega) rfl
  have e8 : (lg_cmp (wL (cw t n p)) 1936683636 = 0) = (Kt t n p = 1 ∧ Vt t n p = nI 8) := s_isW h hp (show 8 < 17 by omega) rfl
  have e9 : (lg_cmp (wL (cw t n p)) 1752135026 = 0) = (Kt t n p = 1 ∧ Vt t n p = nI 9) := s_isW h hp (show 9 < 17 by omega) rfl
  have e10 : (lg_cmp (wL (cw t n p)) 427071729268 = 0) = (Kt t n p = 1 ∧ Vt t n p = nI 10) := s_isW h hp (show 10 < 17 by omega) rfl
  have e11 : (lg_cmp (wL (cw t n p)) 7566701 = 0) = (Kt t n p = 1 ∧ Vt t n p = nI 11) := s_isW h hp (show 11 < 17 by omega) rfl
  have e12 : (lg_cmp (wL (cw t n p)) 123563950826867 = 0) = (Kt t n p = 1 ∧ Vt t n p = nI 12) := s_isW h hp (show 12 < 17 by omega) rfl
  have e13 : (lg_cmp (wL (cw t n p)) 1936024942 = 0) = (Kt t n p = 1 ∧ Vt t n p = nI 13) := s_isW h hp (show 13 < 17 by omega) rfl
  have e14 : (lg_cmp (wL (cw t n p)) 491261290863 = 0) = (Kt t n p = 1 ∧ Vt t n p = nI 14) := s_isW h hp (show 14 < 17 by omega) rfl
  have e15 : (lg_cmp (wL (cw t n p)) 6709618 = 0) = (Kt t n p = 1 ∧ Vt t n p = nI 15) := s_isW h hp (show 15 < 17 by omega) rfl
  have e16 : (lg_cmp (wL (cw t n p)) 1768846447 = 0) = (Kt t n p = 1 ∧ Vt t n p = nI 16) := s_isW h hp (show 16 < 17 by omega) rfl
  simp only [e7, e8, e9, e10, e11, e12, e13, e14, e15, e16]
  unfold fe
  by_cases c : Kt t n p = 1
  · obtain ⟨-, -, -, k4⟩ := Kt_1 c
    have wl := wd_le (cd (fun j => t (p + j)) (en t n p - p))
    rw [k4]
    generalize wd (cd (fun j => t (p + j)) (en t n p - p)) = w at *
    simp only [c, true_and]
    rcases (by omega : w = 0 ∨ w = 1 ∨ w = 2 ∨ w = 3 ∨ w = 4 ∨ w = 5 ∨ w = 6 ∨ w = 7 ∨ w = 8 ∨ w = 9 ∨ w = 10 ∨ w = 11 ∨ w = 12 ∨ w = 13 ∨ w = 14 ∨ w = 15 ∨ w = 16 ∨ w = 17) with q | q | q | q | q | q | q | q | q | q | q | q | q | q | q | q | q | q <;> subst q <;> rfl
  · simp only [c, false_and, if_false]
def cNe (a k : Nat) : Prop := a = 57 ∧ 33 ≤ k ∧ k ≤ 38
theorem cSt_Ne {a k : Nat} (h : cSt a k) : cNe a k := ⟨h.1, h.2.1, by have := h.2.2; omega⟩
theorem s_bad {p : Nat} (h35 : gI τ 57 35 = nI p) (h37 : gI τ 57 37 = 0) (f : Int32) : ∃ τ', f_X12_bad f τ = some ((), τ') ∧ Fr cNe τ τ' ∧ gI τ' 57 37 = f ∧ gI τ' 57 38 = nI p ∧ gI τ' 57 34 = gI τ 57 34 := by
  refine ⟨sI (sI τ 57 37 f) 57 38 (nI p), ?_, ?_, ?_, gI_same _ _ _ _, ?_⟩
  · unfold f_X12_bad f_X12_bad_20
    rw [h37, if_pos rfl, gI_other (Or.inr (by omega)), h35]
  · refine Fr.sI (Fr.sI Fr.rf ?_) ?_ <;> simp [cNe]
  · rw [gI_other (Or.inr (by omega)), gI_same]
  · rw [gI_other (Or.inr (by omega)), gI_other (Or.inr (by omega))]
/-- the reference stands at p, and nothing is wrong -/
def mO (t : Nat → Nat) (n p : Nat) (τ : aSt) : Prop := txM t n τ ∧ mP t n p τ ∧ gI τ 57 37 = 0
theorem s_needY {p : Nat} (hp : p < n) (h : mO t n p τ) (v : Int32) (hv : ¬ v = 0) : ∃ τ', f_X12_need v τ = some ((), τ') ∧ Fr cNe τ τ' ∧ mO t n (nx t n p) τ' := by
  obtain ⟨h1, h2, h3⟩ := h
  have er := en_rng (t := t) hp
  have e33 : gI τ 57 33 = nI (en t n p) := by
    rw [h2.2.2.2]
    unfold mE
    rw [if_neg (by omega)]
  obtain ⟨τ1, k1, k2, k3⟩ := s_step h1 er.2 e33
  refine ⟨τ1, ?_, k2.mono (fun a k q => cSt_Ne q), h1.fr k2 (by simp [cSt]) (by simp [cSt]), k3, by rw [k2.2.1 57 37 (by simp [cSt])]; exact h3⟩
  unfold f_X12_need f_X12_need_9 f_X12_need_20
  rw [if_neg hv, h3, if_pos rfl, k1]
  rfl
theorem s_needN {p : Nat} (h : mO t n p τ) : ∃ τ', f_X12_need 0 τ = some ((), τ') ∧ Fr cNe τ τ' ∧ gI τ' 57 37 = 1 ∧ gI τ' 57 38 = nI p := by
  obtain ⟨h1, h2, h3⟩ := h
  obtain ⟨τ1, k1, k2, k3, k4, -⟩ := s_bad h2.1 h3 1
  refine ⟨τ1, ?_, k2, k3, k4⟩
  unfold f_X12_need f_X12_need_9 f_X12_need_20
  rw [if_pos rfl, k1, Option.bind_some, k3, if_neg (by decide)]
theorem s_numIn {p : Nat} (hp : p ≤ n) (h : mO t n p τ) (lo hi : Int32) : ∃ τ', f_X12_numberIn lo hi τ = some (if Kt t n p = 2 then Vt t n p else 0, τ') ∧ Fr cNe τ τ' ∧ (pnum t n lo hi p = 0 → p < n ∧ mO t n (nx t n p) τ') ∧ (pnum t n lo hi p ≠ 0 → gI τ' 57 37 = nI (pnum t n lo hi p) ∧ gI τ' 57 38 = nI p) := by
  have hO := h
  obtain ⟨⟨h1, h2, h3, h4⟩, ⟨m1, m2, m3, m4⟩, h37⟩ := h
  have kl := (mK_inj (Kt_le (t := t) (n := n) p)).2.1
  unfold f_X12_numberIn
  rw [m1]
  unfold pnum
  by_cases c : Kt t n p = 2
  · simp only [if_pos c]
    obtain ⟨k1, k2, k3, k4⟩ := Kt_2 c
    have hpn : p < n := by omega
    have er := en_rng (t := t) hpn
    have eM : mE t n p = en t n p := by unfold mE; rw [if_neg k1]
    have loop : ∀ (f j : Nat), p + j ≤ en t n p → en t n p < p + j + f → f_X12_numberIn_8 f lo hi (nI (nmN (fun j => t (p + j)) j)) (nI (p + j)) τ = f_X12_numberIn_47 lo hi (Vt t n p) τ := by
      intro f
      induction f with
      | zero => intro j q1 q2; omega
      | succ f ih =>
        intro j q1 q2
        show f_X12_numberIn_8_b (f_X12_numberIn_8 f) lo hi (nI (nmN (fun j => t (p + j)) j)) (nI (p + j)) τ = _
        unfold f_X12_numberIn_8_b
        rw [m3, eM]
        by_cases e : p + j = en t n p
        · rw [e, if_pos (Int32.le_refl _), k4, show j = en t n p - p by omega]
        · have hb := isF_iff.mp (en_F hpn k3 (j := p + j) (by omega) (by omega))
          rw [if_neg (fun q => by rw [nI_leI (by omega) (by omega)] at q; omega), m2, if_pos (kl.mpr c), if_pos (ix_in (by omega) (by omega)), ix_cl (by omega), h4 (p + j) (by omega), show (10 : Int32) = nI 10 from rfl, show (48 : Int32) = nI 48 from rfl, pk_mul, nI_add, pk_sub (by omega), nI_1, Nat.add_assoc p j 1, show 10 * nmN (fun j => t (p + j)) j + t (p + j) - 48 = nmN (fun j => t (p + j)) (j + 1) by
            show _ = nmN (fun j => t (p + j)) j * 10 + (t (p + j) - 48)
            omega]
          exact ih (j + 1) (by omega) (by omega)
    rw [show f_X12_numberIn_8 aN lo hi 0 (nI p) τ = _ from loop aN 0 (by omega) (by show en t n p < p + 0 + 1000000; omega)]
    unfold f_X12_numberIn_47
    rw [m2, if_pos (kl.mpr c), s_in lo.toInt64 hi.toInt64 lo hi rfl rfl, Option.bind_some]
    simp only [bI_0, decide_eq_false_iff_not]
    by_cases d : lo ≤ Vt t n p ∧ Vt t n p ≤ hi
    · rw [if_neg (not_not_intro d)]
      simp only [if_pos d]
      obtain ⟨τ1, j1, j2, j3⟩ := s_needY hpn hO 1 (by decide)
      refine ⟨τ1, ?_, j2, fun _ => ⟨hpn, j3⟩, fun q => absurd rfl q⟩
      unfold f_X12_numberIn_72 f_X12_numberIn_86
      rw [m2, if_pos (kl.mpr c), j1, Option.bind_some]
    · rw [if_pos d]
      simp only [if_neg d]
      obtain ⟨τ1, j1, j2, j3, j4, j5⟩ := s_bad m1 h37 2
      refine ⟨τ1, ?_, j2, fun q => absurd q (by decide), fun _ => ⟨j3, j4⟩⟩
      rw [j1, Option.bind_some]
      unfold f_X12_numberIn_72 f_X12_numberIn_86
      rw [j5, m2, if_pos (kl.mpr c)]
      unfold f_X12_need f_X12_need_9 f_X12_need_20
      rw [if_neg (by decide), j3, if_neg (by decide)]
      rfl
  · simp only [if_neg c]
    obtain ⟨τ1, j1, j2, j3, j4⟩ := s_needN hO
    refine ⟨τ1, ?_, j2, fun q => absurd q (by decide), fun _ => ⟨j3, j4⟩⟩
    have e47 : f_X12_numberIn_47 lo hi 0 τ = some (0, τ1) := by
      unfold f_X12_numberIn_47 f_X12_numberIn_72 f_X12_numberIn_86
      rw [m2, if_neg (fun q => c (kl.mp q)), if_neg (fun q => c (kl.mp q)), j1, Option.bind_some]
    show f_X12_numberIn_8_b (f_X12_numberIn_8 999999) lo hi 0 (nI p) τ = _
    unfold f_X12_numberIn_8_b
    rw [m2, if_neg (show ¬ nI (mK (Kt t n p)) = 3 from fun q => c (kl.mp q)), e47]
    split <;> rfl
theorem s_is {p : Nat} (hp : p ≤ n) (h : mO t n p τ) {c : Nat} (hc : c < 128) : f_X12_is (nI c) τ = some (bI (decide (Kt t n p = 3 ∧ Vt t n p = nI c)), τ) := by
  obtain ⟨⟨h1, h2, h3, h4⟩, ⟨m1, m2, m3, m4⟩, h37⟩ := h
  have kl := (mK_inj (Kt_le (t := t) (n := n) p)).2.2.1
  unfold f_X12_is f_X12_is_25 f_X12_is_26
  rw [m2, m1, if_pos v0_ok, if_pos v1_ok]
  by_cases k : Kt t n p = 3
  · obtain ⟨k1, k2, k3⟩ := Kt_3 k
    rw [if_pos (kl.mpr k), if_pos (ix_in (by omega) (by omega)), ix_cl (by omega), h4 p (by omega), k3]
    by_cases q : nI (t p) = nI c
    · rw [if_pos q, decide_eq_true ⟨k, q⟩]; rfl
    · rw [if_neg q, decide_eq_false (fun z => q z.2)]; rfl
  · rw [if_neg (fun q => k (kl.mp q)), decide_eq_false (fun z => k z.1)]; rfl
end PM
