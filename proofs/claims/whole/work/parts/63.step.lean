/-! ===== the reference's tokens, one by one ===== -/
def txM (t : Nat → Nat) (n : Nat) (τ : aSt) : Prop := n ≤ 600 ∧ (∀ i, i < n → t i < 256) ∧ gI τ 57 32 = nI n ∧ ∀ i, i < n → gI τ 77 i = nI (t i)
def mK (K : Nat) : Nat := if K = 0 then 0 else if K = 1 then 2 else if K = 2 then 3 else if K = 3 then 4 else 1
def mE (t : Nat → Nat) (n p : Nat) : Nat := if p = n then n else en t n p
/-- at the token that begins at p -/
def mP (t : Nat → Nat) (n p : Nat) (τ : aSt) : Prop := gI τ 57 35 = nI p ∧ gI τ 57 34 = nI (mK (Kt t n p)) ∧ gI τ 57 36 = nI (mE t n p) ∧ gI τ 57 33 = nI (mE t n p)
def cSt (a k : Nat) : Prop := a = 57 ∧ 33 ≤ k ∧ k ≤ 36
section SM
variable {t : Nat → Nat} {n : Nat} {τ : aSt}
theorem txM.fr {C : Nat → Nat → Prop} {τ' : aSt} (h : txM t n τ) (f : Fr C τ τ') (h1 : ¬ C 57 32) (h2 : ∀ k, ¬ C 77 k) : txM t n τ' := ⟨h.1, h.2.1, by rw [f.2.1 57 32 h1]; exact h.2.2.1, fun i hi => by rw [f.2.1 77 i (h2 i)]; exact h.2.2.2 i hi⟩
theorem s_byte (h : txM t n τ) {i : Nat} (hi : i < n) : f_X12_byteAt (nI i) τ = some (nI (t i), τ) := by
  obtain ⟨h1, h2, h3, h4⟩ := h
  unfold f_X12_byteAt f_X12_byteAt_19
  rw [h3, if_neg (fun q => by rw [nI_leI (by omega) (by omega)] at q; omega), if_pos (ix_in (by omega) (by omega)), ix_cl (by omega), h4 i hi]
theorem s_byteN (h : txM t n τ) : f_X12_byteAt (nI n) τ = some (-1000000, τ) := by
  unfold f_X12_byteAt f_X12_byteAt_19
  rw [h.2.2.1, if_pos (Int32.le_refl _)]
theorem s_st233 {p e K : Nat} (hp : gI τ 57 35 = nI p) (he : gI τ 57 33 = nI e) (v : Int32) (hv : v = nI (mK K)) : ∃ τ', f_X12_step_233 (sI τ 57 34 v) = some ((), τ') ∧ Fr cSt τ τ' ∧ gI τ' 57 35 = nI p ∧ gI τ' 57 34 = nI (mK K) ∧ gI τ' 57 36 = nI e ∧ gI τ' 57 33 = nI e := by
  refine ⟨_, rfl, ?_, ?_, ?_, ?_, ?_⟩
  · refine Fr.sI (Fr.sI Fr.rf ?_) ?_ <;> simp [cSt]
  · rw [gI_other (Or.inr (by omega)), gI_other (Or.inr (by omega)), hp]
  · rw [gI_other (Or.inr (by omega)), gI_same, hv]
  · rw [gI_same, gI_other (Or.inr (by omega)), he]
  · rw [gI_other (Or.inr (by omega)), gI_other (Or.inr (by omega)), he]
theorem s_st77 {p : Nat} (hpn : p < n) (hL : isL (t p) = true) : ∀ (f e : Nat) (τ : aSt), txM t n τ → p ≤ e → e ≤ n → n < e + f → gI τ 57 35 = nI p → gI τ 57 33 = nI e → ru t n isL e = en t n p → ∃ τ', f_X12_step_77 f τ = some ((), τ') ∧ Fr cSt τ τ' ∧ mP t n p τ' := by
  intro f
  induction f with
  | zero => intro e τ _ h1 h2 h3; omega
  | succ f ih =>
    intro e τ h h1 h2 h3 hp he hr
    have hn := h.1
    show ∃ τ', f_X12_step_77_b (f_X12_step_77 f) τ = _ ∧ _
    unfold f_X12_step_77_b f_X12_step_124
    rw [he]
    have fin : e = en t n p → ∃ τ', (if nI e - nI p ≤ 6 then f_X12_step_233 (sI τ 57 34 2) else f_X12_step_233 (sI τ 57 34 0)) = some ((), τ') ∧ Fr cSt τ τ' ∧ mP t n p τ' := by
      intro ee
      have eM : mE t n p = e := by unfold mE; rw [if_neg (by omega), ee]
      rw [pk_sub h1]
      by_cases c6 : 6 < en t n p - p
      · rw [if_neg (show ¬ nI (e - p) ≤ 6 by rw [show (6 : Int32) = nI 6 from rfl, nI_leI (by omega) (by omega)]; omega)]
        have eK : Kt t n p = 0 := by unfold Kt; rw [if_neg (by omega), if_pos c6]
        obtain ⟨τ1, k1, k2, k3⟩ := s_st233 (K := 0) hp he 0 rfl
        exact ⟨τ1, k1, k2, by unfold mP; rw [eK, eM]; exact k3⟩
      · rw [if_pos (show nI (e - p) ≤ 6 by rw [show (6 : Int32) = nI 6 from rfl, nI_leI (by omega) (by omega)]; omega)]
        have eK : Kt t n p = 1 := by unfold Kt; rw [if_neg (by omega), if_neg c6, if_pos hL]
        obtain ⟨τ1, k1, k2, k3⟩ := s_st233 (K := 1) hp he 2 rfl
        exact ⟨τ1, k1, k2, by unfold mP; rw [eK, eM]; exact k3⟩
    by_cases z : e = n
    · have hb : f_X12_byteAt (nI e) τ = some (-1000000, τ) := by rw [z]; exact s_byteN h
      simp only [hb, Option.bind_some, s_letN, if_true]
      rw [he, hp]
      exact fin (by rw [← hr, z]; exact ru_n.symm)
    · have hen : e < n := by omega
      rw [s_byte h hen, Option.bind_some, s_letM (h.2.1 e hen), Option.bind_some]
      simp only [bI_0]
      rw [ru_s hen] at hr
      by_cases c : isL (t e) = true
      · rw [if_neg (by rw [c]; decide), he, nI_1]
        rw [if_pos c] at hr
        have f1 : Fr cSt τ (sI τ 57 33 (nI (e + 1))) := Fr.sI Fr.rf (by simp [cSt])
        obtain ⟨τ1, k1, k2, k3⟩ := ih (e + 1) (sI τ 57 33 (nI (e + 1))) (h.fr f1 (by simp [cSt]) (by simp [cSt])) (by omega) (by omega) (by omega) (by rw [gI_other (Or.inr (by omega))]; exact hp) (gI_same _ _ _ _) hr
        exact ⟨τ1, k1, f1.tr k2, k3⟩
      · rw [if_pos (bfalse c), he, hp]
        rw [if_neg c] at hr
        exact fin hr
theorem s_st137 {p : Nat} (hpn : p < n) (hF : isF (t p) = true) : ∀ (f e : Nat) (τ : aSt), txM t n τ → p ≤ e → e ≤ n → n < e + f → gI τ 57 35 = nI p → gI τ 57 33 = nI e → ru t n isF e = en t n p → ∃ τ', f_X12_step_137 f τ = some ((), τ') ∧ Fr cSt τ τ' ∧ mP t n p τ' := by
  have hL : ¬ isL (t p) = true := fun q => by rw [isLF q] at hF; cases hF
  intro f
  induction f with
  | zero => intro e τ _ h1 h2 h3; omega
  | succ f ih =>
    intro e τ h h1 h2 h3 hp he hr
    have hn := h.1
    show ∃ τ', f_X12_step_137_b (f_X12_step_137 f) τ = _ ∧ _
    unfold f_X12_step_137_b f_X12_step_184
    rw [he]
    have fin : e = en t n p → ∃ τ', (if nI e - nI p ≤ 6 then f_X12_step_233 (sI τ 57 34 3) else f_X12_step_233 (sI τ 57 34 0)) = some ((), τ') ∧ Fr cSt τ τ' ∧ mP t n p τ' := by
      intro ee
      have eM : mE t n p = e := by unfold mE; rw [if_neg (by omega), ee]
      rw [pk_sub h1]
      by_cases c6 : 6 < en t n p - p
      · rw [if_neg (show ¬ nI (e - p) ≤ 6 by rw [show (6 : Int32) = nI 6 from rfl, nI_leI (by omega) (by omega)]; omega)]
        have eK : Kt t n p = 0 := by unfold Kt; rw [if_neg (by omega), if_pos c6]
        obtain ⟨τ1, k1, k2, k3⟩ := s_st233 (K := 0) hp he 0 rfl
        exact ⟨τ1, k1, k2, by unfold mP; rw [eK, eM]; exact k3⟩
      · rw [if_pos (show nI (e - p) ≤ 6 by rw [show (6 : Int32) = nI 6 from rfl, nI_leI (by omega) (by omega)]; omega)]
        have eK : Kt t n p = 2 := by unfold Kt; rw [if_neg (by omega), if_neg c6, if_neg hL, if_pos hF]
        obtain ⟨τ1, k1, k2, k3⟩ := s_st233 (K := 2) hp he 3 rfl
        exact ⟨τ1, k1, k2, by unfold mP; rw [eK, eM]; exact k3⟩
    by_cases z : e = n
    · have hb : f_X12_byteAt (nI e) τ = some (-1000000, τ) := by rw [z]; exact s_byteN h
      simp only [hb, Option.bind_some, s_figN, if_true]
      rw [he, hp]
      exact fin (by rw [← hr, z]; exact ru_n.symm)
    · have hen : e < n := by omega
      rw [s_byte h hen, Option.bind_some, s_figM (h.2.1 e hen), Option.bind_some]
      simp only [bI_0]
      rw [ru_s hen] at hr
      by_cases c : isF (t e) = true
      · rw [if_neg (by rw [c]; decide), he, nI_1]
        rw [if_pos c] at hr
        have f1 : Fr cSt τ (sI τ 57 33 (nI (e + 1))) := Fr.sI Fr.rf (by simp [cSt])
        obtain ⟨τ1, k1, k2, k3⟩ := ih (e + 1) (sI τ 57 33 (nI (e + 1))) (h.fr f1 (by simp [cSt]) (by simp [cSt])) (by omega) (by omega) (by omega) (by rw [gI_other (Or.inr (by omega))]; exact hp) (gI_same _ _ _ _) hr
        exact ⟨τ1, k1, f1.tr k2, k3⟩
      · rw [if_pos (bfalse c), he, hp]
        rw [if_neg c] at hr
        exact fin hr
theorem s_stepL : ∀ (f c : Nat) (τ : aSt), txM t n τ → c ≤ n → n < c + f → gI τ 57 33 = nI c → ∃ τ', f_X12_step_0 f τ = some ((), τ') ∧ Fr cSt τ τ' ∧ mP t n (sk t n c) τ' := by
  intro f
  induction f with
  | zero => intro c τ _ h1 h2; omega
  | succ f ih =>
    intro c τ h h1 h2 he
    have hn := h.1
    show ∃ τ', f_X12_step_0_b (f_X12_step_0 f) τ = _ ∧ _
    unfold f_X12_step_0_b f_X12_step_26
    rw [he]
    by_cases z : c = n
    · rw [z] at he ⊢
      rw [s_byteN h, Option.bind_some, if_neg (show ¬ (-1000000 : Int32) = 32 by decide), he, s_byteN h, Option.bind_some, if_neg (show ¬ (-1000000 : Int32) = 10 by decide), he]
      have f1 : Fr cSt τ (sI τ 57 35 (nI n)) := Fr.sI Fr.rf (by simp [cSt])
      have h' := h.fr f1 (by simp [cSt]) (by simp [cSt])
      have e33 : gI (sI τ 57 35 (nI n)) 57 33 = nI n := by rw [gI_other (Or.inr (by omega))]; exact he
      rw [e33, s_byteN h', Option.bind_some, if_pos rfl]
      obtain ⟨τ1, k1, k2, k3⟩ := s_st233 (K := 4) (gI_same _ _ _ _) e33 1 rfl
      refine ⟨τ1, k1, f1.tr k2, ?_⟩
      have esk : sk t n n = n := ru_n
      unfold mP
      rw [esk, show mE t n n = n by unfold mE; rw [if_pos rfl], show Kt t n n = 4 by unfold Kt; rw [if_pos rfl]]
      exact k3
    have hcn : c < n := by omega
    have t256 := h.2.1 c hcn
    have skip : isP (t c) = true → ∃ τ', f_X12_step_0 f (sI τ 57 33 (nI c + 1)) = some ((), τ') ∧ Fr cSt τ τ' ∧ mP t n (sk t n c) τ' := by
      intro hP
      have f1 : Fr cSt τ (sI τ 57 33 (nI (c + 1))) := Fr.sI Fr.rf (by simp [cSt])
      obtain ⟨τ1, k1, k2, k3⟩ := ih (c + 1) (sI τ 57 33 (nI (c + 1))) (h.fr f1 (by simp [cSt]) (by simp [cSt])) (by omega) (by omega) (gI_same _ _ _ _)
      refine ⟨τ1, by rw [nI_1]; exact k1, f1.tr k2, ?_⟩
      have : sk t n c = sk t n (c + 1) := by unfold sk; rw [ru_s hcn, if_pos hP]
      rw [this]
      exact k3
    have nq : ∀ k : Nat, k < 256 → (nI (t c) = nI k ↔ t c = k) := fun k hk => ⟨fun w => nI_inj (by omega) (by omega) w, fun w => by rw [w]⟩
    rw [s_byte h hcn, Option.bind_some, he]
    by_cases c1 : t c = 32
    · rw [if_pos (show nI (t c) = 32 from (nq 32 (by omega)).mpr c1)]
      exact skip (by unfold isP; simp [c1])
    rw [if_neg (show ¬ nI (t c) = 32 from fun w => c1 ((nq 32 (by omega)).mp w)), s_byte h hcn, Option.bind_some, he]
    by_cases c2 : t c = 10
    · rw [if_pos (show nI (t c) = 10 from (nq 10 (by omega)).mpr c2)]
      exact skip (by unfold isP; simp [c2])
    rw [if_neg (show ¬ nI (t c) = 10 from fun w => c2 ((nq 10 (by omega)).mp w))]
    have nP : isP (t c) = false := by unfold isP; simp [c1, c2]
    have esk : sk t n c = c := by
      unfold sk
      rw [ru_s hcn, nP]
      rfl
    rw [esk]
    have f1 : Fr cSt τ (sI τ 57 35 (nI c)) := Fr.sI Fr.rf (by simp [cSt])
    have h' := h.fr f1 (by simp [cSt]) (by simp [cSt])
    have e33 : gI (sI τ 57 35 (nI c)) 57 33 = nI c := by rw [gI_other (Or.inr (by omega))]; exact he
    have e35 : gI (sI τ 57 35 (nI c)) 57 35 = nI c := gI_same _ _ _ _
    rw [e33]
    generalize sI τ 57 35 (nI c) = τ1 at *
    rw [s_byte h' hcn, Option.bind_some, if_neg (nI_noNone (by omega)), s_letM t256, Option.bind_some]
    simp only [bI_0]
    have lift : (∃ τ', (∃ x : Option (Unit × aSt), x = some ((), τ')) ∧ Fr cSt τ1 τ' ∧ mP t n c τ') → True := fun _ => trivial
    by_cases cL : isL (t c) = true
    · rw [if_neg (by rw [cL]; decide)]
      obtain ⟨τ2, k1, k2, k3⟩ := s_st77 hcn cL aN c τ1 h' (Nat.le_refl _) h1 (by show n < c + 1000000; omega) e35 e33 (by unfold en; rw [if_pos cL])
      exact ⟨τ2, k1, f1.tr k2, k3⟩
    rw [if_pos (bfalse cL), s_figM t256, Option.bind_some]
    simp only [bI_0]
    by_cases cF : isF (t c) = true
    · rw [if_neg (by rw [cF]; decide)]
      obtain ⟨τ2, k1, k2, k3⟩ := s_st137 hcn cF aN c τ1 h' (Nat.le_refl _) h1 (by show n < c + 1000000; omega) e35 e33 (by unfold en; rw [if_neg cL, if_pos cF])
      exact ⟨τ2, k1, f1.tr k2, k3⟩
    rw [if_pos (bfalse cF), e33, nI_1]
    have een : en t n c = c + 1 := by unfold en; rw [if_neg cL, if_neg cF]
    have eME : mE t n c = c + 1 := by unfold mE; rw [if_neg (by omega), een]
    have fin : ∀ (v : Int32), v = nI (mK (Kt t n c)) → ∃ τ', f_X12_step_233 (sI (sI τ1 57 33 (nI (c + 1))) 57 34 v) = some ((), τ') ∧ Fr cSt τ τ' ∧ mP t n c τ' := by
      intro v hv
      obtain ⟨τ2, k1, k2, k3⟩ := s_st233 (τ := sI τ1 57 33 (nI (c + 1))) (p := c) (e := c + 1) (K := Kt t n c) (by rw [gI_other (Or.inr (by omega))]; exact e35) (gI_same _ _ _ _) v hv
      refine ⟨τ2, k1, f1.tr ((Fr.sI Fr.rf (by simp [cSt]) : Fr cSt τ1 _).tr k2), ?_⟩
      unfold mP
      rw [eME]
      exact k3
    unfold f_X12_step_225 f_X12_step_230
    have eK : Kt t n c = if isG (t c) then 3 else 0 := by
      unfold Kt
      rw [if_neg (by omega), if_neg (by omega), if_neg cL, if_neg cF]
    have yes : isG (t c) = true → (4 : Int32) = nI (mK (Kt t n c)) := fun q => by rw [eK, if_pos q]; rfl
    by_cases g1 : t c = 59
    · rw [if_pos (show nI (t c) = 59 from (nq 59 (by omega)).mpr g1)]
      exact fin 4 (yes (by unfold isG; simp [g1]))
    rw [if_neg (show ¬ nI (t c) = 59 from fun w => g1 ((nq 59 (by omega)).mp w))]
    by_cases g2 : t c = 60
    · rw [if_pos (show nI (t c) = 60 from (nq 60 (by omega)).mpr g2)]
      exact fin 4 (yes (by unfold isG; simp [g2]))
    rw [if_neg (show ¬ nI (t c) = 60 from fun w => g2 ((nq 60 (by omega)).mp w))]
    by_cases g3 : t c = 62
    · rw [if_pos (show nI (t c) = 62 from (nq 62 (by omega)).mpr g3)]
      exact fin 4 (yes (by unfold isG; simp [g3]))
    rw [if_neg (show ¬ nI (t c) = 62 from fun w => g3 ((nq 62 (by omega)).mp w))]
    by_cases g4 : t c = 61
    · rw [if_pos (show nI (t c) = 61 from (nq 61 (by omega)).mpr g4)]
      exact fin 4 (yes (by unfold isG; simp [g4]))
    rw [if_neg (show ¬ nI (t c) = 61 from fun w => g4 ((nq 61 (by omega)).mp w))]
    have no : isG (t c) = false := by unfold isG; simp [g1, g2, g3, g4]
    exact fin 0 (by rw [eK, no]; rfl)
theorem s_step (h : txM t n τ) {c : Nat} (hc : c ≤ n) (he : gI τ 57 33 = nI c) : ∃ τ', f_X12_step τ = some ((), τ') ∧ Fr cSt τ τ' ∧ mP t n (sk t n c) τ' := s_stepL aN c τ h hc (by have := h.1; show n < c + 1000000; omega) he
end SM
theorem wL_sh {v c : Nat} (hv : v < 1099511627776) (hc : c < 256) : (wL v <<< ((8 : Int32).toInt64 &&& 63)) ||| (nI c).toInt64 = wL (v * 256 + c) := by
  rw [wL_nI (by omega)]
  apply Int64.toBitVec_inj.1
  rw [Int64.toBitVec_or, Int64.toBitVec_shiftLeft]
  have e8 : (((8 : Int32).toInt64 &&& 63).toBitVec.smod 64) = 8#64 := by decide
  rw [e8]
  apply BitVec.eq_of_toNat_eq
  show ((BitVec.ofNat 64 v <<< 8#64) ||| BitVec.ofNat 64 c).toNat = (BitVec.ofNat 64 (v * 256 + c)).toNat
  rw [BitVec.toNat_or, BitVec.shiftLeft_eq', BitVec.toNat_shiftLeft]
  have e88 : (8#64).toNat = 8 := rfl
  rw [e88, BitVec.toNat_ofNat, BitVec.toNat_ofNat, BitVec.toNat_ofNat, Nat.mod_eq_of_lt (show v < 2 ^ 64 by omega), Nat.mod_eq_of_lt (show c < 2 ^ 64 by omega), Nat.mod_eq_of_lt (show v * 256 + c < 2 ^ 64 by omega), Nat.shiftLeft_eq, Nat.mod_eq_of_lt (show v * 2 ^ 8 < 2 ^ 64 by omega)]
  have := Nat.two_pow_add_eq_or_of_lt (show c < 2 ^ 8 from hc) v
  rw [Nat.mul_comm v (2 ^ 8), ← this]
