/-! ===== the reference reads ===== -/
def rowM (t : Nat → Nat) (n r w p0 c : Nat) (τ : aSt) : Prop := gI τ 73 r = Vt t n w ∧ gI τ 74 r = nI c ∧ ∀ j, j < c → gI τ 75 (12 * r + 3 * j) = Vt t n (tq t n p0 j) - 7 ∧ gI τ 75 (12 * r + 3 * j + 1) = Vt t n (nx t n (tq t n p0 j)) ∧ gI τ 75 (12 * r + 3 * j + 2) = Vt t n (nx t n (nx t n (tq t n p0 j)))
def bkM (t : Nat → Nat) (n : Nat) (lim : Nat → Int32) (R : Nat) (wp cn : Nat → Nat) (τ : aSt) : Prop := gI τ 57 24 = nI R ∧ (∀ k, k < 4 → gI τ 76 k = lim k) ∧ ∀ r, r < R → rowM t n r (wp r) (nx t n (nx t n (wp r))) (cn r) τ
def fM (f q : Nat) (τ : aSt) : Prop := gI τ 57 37 = nI f ∧ gI τ 57 38 = nI q
section RM
variable {t : Nat → Nat} {n : Nat} {τ : aSt}
theorem mO.fr {C : Nat → Nat → Prop} {τ' : aSt} {p : Nat} (h : mO t n p τ) (f : Fr C τ τ') (hc : ∀ a k, C a k → (73 ≤ a ∧ a ≤ 76) ∨ (a = 57 ∧ k = 24)) : mO t n p τ' := by
  obtain ⟨h1, ⟨m1, m2, m3, m4⟩, h3⟩ := h
  have g : ∀ k, 33 ≤ k → gI τ' 57 k = gI τ 57 k := fun k hk => f.2.1 57 k (fun z => by have := hc _ _ z; omega)
  exact ⟨h1.fr f (fun z => by have := hc _ _ z; omega) (fun k z => by have := hc _ _ z; omega), ⟨by rw [g 35 (by omega)]; exact m1, by rw [g 34 (by omega)]; exact m2, by rw [g 36 (by omega)]; exact m3, by rw [g 33 (by omega)]; exact m4⟩, by rw [g 37 (by omega)]; exact h3⟩
theorem fM.fr {C : Nat → Nat → Prop} {τ' : aSt} {f q : Nat} (h : fM f q τ) (fr : Fr C τ τ') (hc : ∀ a k, C a k → (73 ≤ a ∧ a ≤ 76) ∨ (a = 57 ∧ k = 24)) : fM f q τ' := ⟨by rw [fr.2.1 57 37 (fun z => by have := hc _ _ z; omega)]; exact h.1, by rw [fr.2.1 57 38 (fun z => by have := hc _ _ z; omega)]; exact h.2⟩
theorem okF_fe {p : Nat} : (okF t n p = true → fe t n p = Vt t n p - 7 ∧ ¬ Vt t n p - 7 = -1000000) ∧ (okF t n p = false → fe t n p = -1000000) := by
  have e : okF t n p = decide (Kt t n p = 1 ∧ 7 ≤ Vt t n p ∧ Vt t n p ≤ 16) := by
    unfold okF
    rw [← Bool.decide_and, ← Bool.decide_and]
  unfold fe
  rw [e]
  refine ⟨fun h => ?_, fun h => ?_⟩
  · have h := of_decide_eq_true h
    rw [if_pos h]
    refine ⟨rfl, fun z => ?_⟩
    obtain ⟨-, h2, h3⟩ := h
    rw [pi_le, show (7 : Int32).toInt = 7 from rfl] at h2
    rw [pi_le, show (16 : Int32).toInt = 16 from rfl] at h3
    have z2 := congrArg Int32.toInt z
    rw [pi_sub (by rw [show (7 : Int32).toInt = 7 from rfl]; omega) (by rw [show (7 : Int32).toInt = 7 from rfl]; omega), show (7 : Int32).toInt = 7 from rfl, show (-1000000 : Int32).toInt = -1000000 from rfl] at z2
    omega
  · have h := of_decide_eq_false h
    rw [if_neg h]
/-- cells that a test of the reference writes -/
def cMt (R j a k : Nat) : Prop := cNe a k ∨ (a = 75 ∧ 12 * R + 3 * j ≤ k ∧ k < 12 * R + 3 * j + 3)
theorem s_rtestM {R j p : Nat} (hR : R < 12) (hj : j < 4) (e24 : gI τ 57 24 = nI R) (hp : p ≤ n) (h : mO t n p τ) : ∃ τ', f_X12_readTest (nI j) τ = some ((), τ') ∧ Fr (cMt R j) τ τ' ∧ ((ptf t n p).1 = 0 → mO t n (ptn t n p) τ' ∧ gI τ' 75 (12 * R + 3 * j) = Vt t n p - 7 ∧ gI τ' 75 (12 * R + 3 * j + 1) = Vt t n (nx t n p) ∧ gI τ' 75 (12 * R + 3 * j + 2) = Vt t n (nx t n (nx t n p))) ∧ ((ptf t n p).1 ≠ 0 → fM (ptf t n p).1 (ptf t n p).2 τ') := by
  have hn := h.1.1
  have eat : (12 : Int32) * nI R + 3 * nI j = nI (12 * R + 3 * j) := by rw [show (12 : Int32) = nI 12 from rfl, show (3 : Int32) = nI 3 from rfl, pk_mul, pk_mul, nI_add]
  unfold f_X12_readTest
  rw [s_fe h.1 hp h.2.1, Option.bind_some, e24, eat, if_pos (ix_in (by omega) (by omega)), ix_cl (by omega)]
  generalize hA : 12 * R + 3 * j = A at *
  have frA : Fr (fun a k => a = 75 ∧ k = A) τ (sI τ 75 A (fe t n p)) := Fr.sI Fr.rf ⟨rfl, rfl⟩
  have h1 : mO t n p (sI τ 75 A (fe t n p)) := h.fr frA (fun a k q => by omega)
  have v75 : gI (sI τ 75 A (fe t n p)) 75 A = fe t n p := gI_same _ _ _ _
  by_cases c : okF t n p = true
  case neg =>
    have efe := okF_fe.2 (bfalse c)
    rw [if_pos efe]
    obtain ⟨τ1, k1, k2, k3, k4⟩ := s_needN h1
    refine ⟨τ1, ?_, ?_, fun q => ?_, fun _ => ?_⟩
    · unfold f_X12_readTest_36
      rw [k1, Option.bind_some, k3, if_neg (by decide)]
    · exact (frA.mono (fun a k q => Or.inr (by omega))).tr (k2.mono (fun a k q => Or.inl q))
    · rw [ptf_F (bfalse c)] at q
      exact absurd q (by show ¬ (1 : Nat) = 0; decide)
    · rw [ptf_F (bfalse c)]
      exact ⟨k3, k4⟩
  have efe := okF_fe.1 c
  rw [if_neg (show ¬ fe t n p = -1000000 by rw [efe.1]; exact efe.2)]
  have k1p : Kt t n p = 1 := by
    have c' := c
    unfold okF at c'
    simp only [Bool.and_eq_true, decide_eq_true_iff] at c'
    exact c'.1
  have hpn : p < n := by have := (Kt_1 k1p).1; omega
  have r1 := nx_rng (t := t) hpn
  generalize sI τ 75 A (fe t n p) = τ0 at *
  obtain ⟨τ1, k1, k2, k3⟩ := s_needY hpn h1 1 (by decide)
  unfold f_X12_readTest_36
  rw [k1, Option.bind_some, k3.2.2, if_pos (Int32.le_refl _)]
  have f1 : Fr (cMt R j) τ τ1 := (frA.mono (fun a k q => Or.inr (by omega))).tr (k2.mono (fun a k q => Or.inl q))
  have v1 : gI τ1 75 A = Vt t n p - 7 := by rw [k2.2.1 75 A (by unfold cNe; omega), v75, efe.1]
  have ib1 : inB (nI A + 1) 144 := by rw [nI_1]; exact ix_in (by omega) (by omega)
  have ib2 : inB (nI A + 2) 144 := by rw [show (2 : Int32) = nI 2 from rfl, nI_add]; exact ix_in (by omega) (by omega)
  have cl1 : (nI A + 1).toNatClampNeg = A + 1 := by rw [nI_1]; exact ix_cl (by omega)
  have cl2 : (nI A + 2).toNatClampNeg = A + 2 := by rw [show (2 : Int32) = nI 2 from rfl, nI_add]; exact ix_cl (by omega)
  -- the sign
  have e79 : (f_X12_is 60 τ1).bind (fun q17 => (if q17.1 = 0 then (f_X12_is 62 q17.2).bind (fun q20 => (if q20.1 = 0 then (f_X12_is 61 q20.2).bind (fun q23 => (if q23.1 = 0 then f_X12_readTest_79 (nI A) 0 q23.2 else f_X12_readTest_74 (nI A) q23.2)) else f_X12_readTest_74 (nI A) q20.2)) else f_X12_readTest_74 (nI A) q17.2)) = f_X12_readTest_79 (nI A) (bI (okS t n (nx t n p))) τ1 := by
    unfold f_X12_readTest_74
    have is1 : ∀ c : Nat, c < 128 → f_X12_is (nI c) τ1 = some (bI (decide (Kt t n (nx t n p) = 3 ∧ Vt t n (nx t n p) = nI c)), τ1) := fun c hc => s_is r1.2 k3 hc
    rw [show f_X12_is 60 τ1 = _ from is1 60 (by omega), Option.bind_some]
    simp only [bI_0, decide_eq_false_iff_not]
    have eS : ∀ b : Bool, b = okS t n (nx t n p) → f_X12_readTest_79 (nI A) (bI b) τ1 = f_X12_readTest_79 (nI A) (bI (okS t n (nx t n p))) τ1 := fun b hb => by rw [hb]
    have yes : ∀ c : Nat, c < 128 → c ≠ 59 → (Kt t n (nx t n p) = 3 ∧ Vt t n (nx t n p) = nI c) → true = okS t n (nx t n p) := fun c h1 h2 q => by
      unfold okS
      rw [decide_eq_true q.1, decide_eq_true (show ¬ Vt t n (nx t n p) = 59 from fun z => h2 (nI_inj (by omega) (by omega) (q.2.symm.trans z)))]
      rfl
    by_cases c60 : Kt t n (nx t n p) = 3 ∧ Vt t n (nx t n p) = nI 60
    · rw [if_neg (not_not_intro c60)]
      exact eS true (yes 60 (by omega) (by omega) c60)
    rw [if_pos c60, show f_X12_is 62 τ1 = _ from is1 62 (by omega), Option.bind_some]
    simp only [bI_0, decide_eq_false_iff_not]
    by_cases c62 : Kt t n (nx t n p) = 3 ∧ Vt t n (nx t n p) = nI 62
    · rw [if_neg (not_not_intro c62)]
      exact eS true (yes 62 (by omega) (by omega) c62)
    rw [if_pos c62, show f_X12_is 61 τ1 = _ from is1 61 (by omega), Option.bind_some]
    simp only [bI_0, decide_eq_false_iff_not]
    by_cases c61 : Kt t n (nx t n p) = 3 ∧ Vt t n (nx t n p) = nI 61
    · rw [if_neg (not_not_intro c61)]
      exact eS true (yes 61 (by omega) (by omega) c61)
    rw [if_pos c61]
    refine eS false ?_
    symm
    refine bfalse (fun q => ?_)
    unfold okS at q
    simp only [Bool.and_eq_true, decide_eq_true_iff] at q
    obtain ⟨-, k2', k3'⟩ := Kt_3 q.1
    rw [k3'] at c60 c61 c62 q
    rcases k2' with w | w | w | w
    · exact q.2 (by rw [w]; rfl)
    · exact c60 ⟨q.1, by rw [w]⟩
    · exact c62 ⟨q.1, by rw [w]⟩
    · exact c61 ⟨q.1, by rw [w]⟩
  rw [e79]
  unfold f_X12_readTest_79
  have frB : ∀ v, Fr (fun a k => a = 75 ∧ k = A + 1) τ1 (sI τ1 75 (A + 1) v) := fun v => Fr.sI Fr.rf ⟨rfl, rfl⟩
  have h2 : ∀ v, mO t n (nx t n p) (sI τ1 75 (A + 1) v) := fun v => k3.fr (frB v) (fun a k q => by omega)
  by_cases d : okS t n (nx t n p) = true
  case neg =>
    rw [bfalse d, if_pos (show bI false = 0 from rfl)]
    obtain ⟨τ2, w1, w2, w3, w4⟩ := s_needN (h2 0)
    refine ⟨τ2, ?_, ?_, fun q => ?_, fun _ => ?_⟩
    · unfold f_X12_readTest_106 f_X12_readTest_136
      rw [if_pos ib1, cl1, show bI false = 0 from rfl, w1, Option.bind_some, w3, if_neg (by decide)]
    · exact f1.tr (((frB 0).mono (fun a k q => Or.inr (by omega))).tr (w2.mono (fun a k q => Or.inl q)))
    · rw [ptf_S c (bfalse d)] at q
      exact absurd q (by show ¬ (1 : Nat) = 0; decide)
    · rw [ptf_S c (bfalse d)]
      exact ⟨w3, w4⟩
  have k3n : Kt t n (nx t n p) = 3 := by
    have d' := d
    unfold okS at d'
    simp only [Bool.and_eq_true, decide_eq_true_iff] at d'
    exact d'.1
  obtain ⟨k31, k32, k33⟩ := Kt_3 k3n
  have hpn1 : nx t n p < n := by omega
  have e77 : gI τ1 77 (gI τ1 57 35).toNatClampNeg = Vt t n (nx t n p) := by
    rw [k3.2.1.1, ix_cl (by omega), k3.1.2.2.2 _ hpn1, k33]
  rw [d, if_neg (show ¬ bI true = 0 by decide), if_pos (show inB (gI τ1 57 35) 600 by rw [k3.2.1.1]; exact ix_in (by omega) (by omega)), e77]
  have r2 := nx_rng (t := t) hpn1
  obtain ⟨τ2, w1, w2, w3⟩ := s_needY hpn1 (h2 (Vt t n (nx t n p))) 1 (by decide)
  unfold f_X12_readTest_106 f_X12_readTest_136
  rw [if_pos ib1, cl1, show bI true = 1 from rfl, w1, Option.bind_some, w3.2.2, if_pos rfl]
  obtain ⟨τ3, u1, u2, u3, u4⟩ := s_numIn r2.2 w3 0 999999
  rw [u1, Option.bind_some, if_pos ib2, cl2]
  have f3 : Fr (cMt R j) τ τ3 := f1.tr (((frB (Vt t n (nx t n p))).mono (fun a k q => Or.inr (by omega))).tr ((w2.mono (fun a k q => Or.inl q)).tr (u2.mono (fun a k q => Or.inl q))))
  have frC : ∀ v, Fr (fun a k => a = 75 ∧ k = A + 2) τ3 (sI τ3 75 (A + 2) v) := fun v => Fr.sI Fr.rf ⟨rfl, rfl⟩
  have ep := ptf_N c d
  refine ⟨_, rfl, f3.tr ((frC _).mono (fun a k q => Or.inr (by omega))), fun q => ?_, fun q => ?_⟩
  · rw [ep] at q
    obtain ⟨x1, x2⟩ := u3 q
    refine ⟨x2.fr (frC _) (fun a k q => by omega), ?_, ?_, ?_⟩
    · rw [gI_other (Or.inr (by omega)), u2.2.1 75 A (by unfold cNe; omega), w2.2.1 75 A (by unfold cNe; omega), gI_other (Or.inr (by omega))]
      exact v1
    · rw [gI_other (Or.inr (by omega)), u2.2.1 75 (A + 1) (by unfold cNe; omega), w2.2.1 75 (A + 1) (by unfold cNe; omega), gI_same]
    · rw [gI_same, if_pos (pnum_0 q).1]
  · rw [ep] at q ⊢
    exact (show fM _ _ τ3 from u4 q).fr (frC _) (fun a k q => by omega)
/-- cells that reading writes -/
def cMr (a k : Nat) : Prop := (a = 57 ∧ (k = 24 ∨ (33 ≤ k ∧ k ≤ 38))) ∨ (73 ≤ a ∧ a ≤ 76)
/-- rows of other rules stay -/
def cMu (R a k : Nat) : Prop := (a = 57 ∧ (k = 24 ∨ (33 ≤ k ∧ k ≤ 38))) ∨ ((a = 73 ∨ a = 74) ∧ k = R) ∨ (a = 75 ∧ 12 * R ≤ k ∧ k < 12 * R + 12)
theorem cNe_Mu {R a k : Nat} (h : cNe a k) : cMu R a k := by unfold cNe at h; unfold cMu; omega
theorem cMt_Mu {R j a k : Nat} (hj : j < 4) (h : cMt R j a k) : cMu R a k := by unfold cMt cNe at h; unfold cMu; omega
/-- the end of a line -/
theorem s_283 {q : Nat} (hq : q ≤ n) (h : mO t n q τ) : ∃ τ', f_X12_readLine_283 τ = some ((), τ') ∧ Fr cNe τ τ' ∧ (okE t n q = true → mO t n (nx t n q) τ') ∧ (okE t n q = false → fM 1 q τ') := by
  unfold f_X12_readLine_283 f_X12_readLine_300
  rw [h.2.2, if_pos rfl, show f_X12_is 59 τ = _ from s_is hq h (c := 59) (by omega), Option.bind_some]
  have e : okE t n q = decide (Kt t n q = 3 ∧ Vt t n q = nI 59) := by
    unfold okE
    rw [← Bool.decide_and]
    rfl
  rw [← e]
  by_cases c : okE t n q = true
  · have hne := (Kt_3 (okE_3 c).1).1
    obtain ⟨τ1, k1, k2, k3⟩ := s_needY (show q < n by omega) h 1 (by decide)
    rw [c, show bI true = 1 from rfl, k1, Option.bind_some]
    exact ⟨τ1, rfl, k2, fun _ => k3, fun z => absurd z (by decide)⟩
  · obtain ⟨τ1, k1, k2, k3, k4⟩ := s_needN h
    rw [bfalse c, show bI false = 0 from rfl, k1, Option.bind_some]
    exact ⟨τ1, rfl, k2, fun z => absurd z (by decide), fun _ => ⟨k3, k4⟩⟩
theorem s_283f {f q : Nat} (hf : f ≠ 0) (hf2 : f < 100) (h : fM f q τ) : f_X12_readLine_283 τ = some ((), τ) := by
  unfold f_X12_readLine_283 f_X12_readLine_300
  rw [h.1, if_neg (show ¬ nI f = 0 from fun z => hf (nI_inj (by omega) (by omega) (show nI f = nI 0 from z)))]
theorem s_262 {R : Nat} (hR : R < 12) (e24 : gI τ 57 24 = nI R) (x : Int32) : f_X12_readLine_262 x τ = f_X12_readLine_283 (sI (sI τ 74 R x) 57 24 (nI (R + 1))) := by
  unfold f_X12_readLine_262
  rw [e24, if_pos (ix_in hR (by omega)), ix_cl (by omega), gI_other (Or.inl (by omega)), e24, nI_1]
theorem fr262 {R : Nat} (x v : Int32) : Fr (fun a k => (a = 74 ∧ k = R) ∨ (a = 57 ∧ k = 24)) τ (sI (sI τ 74 R x) 57 24 v) := by
  refine Fr.sI (Fr.sI Fr.rf ?_) ?_ <;> simp
/-- after a fault the line ends -/
theorem s_214f {R f q : Nat} (hR : R < 12) (e24 : gI τ 57 24 = nI R) (hf : f ≠ 0) (hf2 : f < 100) (h : fM f q τ) (F : Nat) (x : Int32) : ∃ τ', f_X12_readLine_214 (F + 1) x τ = some ((), τ') ∧ Fr (cMu R) τ τ' ∧ fM f q τ' := by
  have fr := fr262 (τ := τ) (R := R) x (nI (R + 1))
  have hf' := h.fr fr (fun a k q => by omega)
  refine ⟨_, ?_, fr.mono (fun a k q => by unfold cMu; omega), hf'⟩
  show f_X12_readLine_214_b (f_X12_readLine_214 F) x τ = _
  unfold f_X12_readLine_214_b
  rw [h.1, if_neg (show ¬ nI f = 0 from fun z => hf (nI_inj (by omega) (by omega) (show nI f = nI 0 from z))), s_262 hR e24, s_283f hf hf2 hf']
theorem ptf_lt {p : Nat} : (ptf t n p).1 < 100 := by
  have hp : ∀ lo hi q, pnum t n lo hi q ≤ 2 := fun lo hi q => by
    unfold pnum
    repeat' split
    all_goals omega
  unfold ptf
  split
  · split
    · have := hp 0 999999 (nx t n (nx t n p))
      show pnum t n 0 999999 (nx t n (nx t n p)) < 100
      omega
    · show (1 : Nat) < 100; omega
  · show (1 : Nat) < 100; omega
theorem okW_isW {p k : Nat} : okW t n p k = true ↔ isW t n p k := by
  unfold okW isW
  simp only [Bool.and_eq_true, decide_eq_true_iff]
theorem s_stepO {q : Nat} (hq : q < n) (h : mO t n q τ) : ∃ τ', f_X12_step τ = some ((), τ') ∧ Fr cNe τ τ' ∧ mO t n (nx t n q) τ' := by
  obtain ⟨h1, h2, h3⟩ := h
  have er := en_rng (t := t) hq
  have e33 : gI τ 57 33 = nI (en t n q) := by
    rw [h2.2.2.2]
    unfold mE
    rw [if_neg (by omega)]
  obtain ⟨τ1, k1, k2, k3⟩ := s_step h1 er.2 e33
  exact ⟨τ1, k1, k2.mono (fun a k q => cSt_Ne q), h1.fr k2 (by simp [cSt]) (by simp [cSt]), k3, by rw [k2.2.1 57 37 (by simp [cSt])]; exact h3⟩
theorem s_214 {R w p0 : Nat} (hR : R < 12) : ∀ (d j F : Nat) (τ : aSt), d + j = 4 → 1 ≤ j → d + 2 < F → gI τ 57 24 = nI R → gI τ 73 R = Vt t n w → (∀ i, i < j → gI τ 75 (12 * R + 3 * i) = Vt t n (tq t n p0 i) - 7 ∧ gI τ 75 (12 * R + 3 * i + 1) = Vt t n (nx t n (tq t n p0 i)) ∧ gI τ 75 (12 * R + 3 * i + 2) = Vt t n (nx t n (nx t n (tq t n p0 i)))) → ptn t n (tq t n p0 (j - 1)) ≤ n → mO t n (ptn t n (tq t n p0 (j - 1))) τ → ∃ τ' P, P = (if okW t n (ptn t n (tq t n p0 (j - 1))) 6 then plp t n p0 d j else if okE t n (ptn t n (tq t n p0 (j - 1))) then (0, nx t n (ptn t n (tq t n p0 (j - 1))), j) else (1, ptn t n (tq t n p0 (j - 1)), j)) ∧ f_X12_readLine_214 F (nI j) τ = some ((), τ') ∧ Fr (cMu R) τ τ' ∧ (P.1 = 0 → mO t n P.2.1 τ' ∧ gI τ' 57 24 = nI (R + 1) ∧ rowM t n R w p0 P.2.2 τ') ∧ (P.1 ≠ 0 → fM P.1 P.2.1 τ') := by
  have notAnd : ∀ (j F : Nat) (τ : aSt) (X : Nat × Nat × Nat), 1 ≤ j → gI τ 57 24 = nI R → gI τ 73 R = Vt t n w → (∀ i, i < j → gI τ 75 (12 * R + 3 * i) = Vt t n (tq t n p0 i) - 7 ∧ gI τ 75 (12 * R + 3 * i + 1) = Vt t n (nx t n (tq t n p0 i)) ∧ gI τ 75 (12 * R + 3 * i + 2) = Vt t n (nx t n (nx t n (tq t n p0 i)))) → ptn t n (tq t n p0 (j - 1)) ≤ n → mO t n (ptn t n (tq t n p0 (j - 1))) τ → ¬ okW t n (ptn t n (tq t n p0 (j - 1))) 6 = true → ∃ τ' P, P = (if okW t n (ptn t n (tq t n p0 (j - 1))) 6 then X else if okE t n (ptn t n (tq t n p0 (j - 1))) then (0, nx t n (ptn t n (tq t n p0 (j - 1))), j) else (1, ptn t n (tq t n p0 (j - 1)), j)) ∧ f_X12_readLine_214 (F + 1) (nI j) τ = some ((), τ') ∧ Fr (cMu R) τ τ' ∧ (P.1 = 0 → mO t n P.2.1 τ' ∧ gI τ' 57 24 = nI (R + 1) ∧ rowM t n R w p0 P.2.2 τ') ∧ (P.1 ≠ 0 → fM P.1 P.2.1 τ') := by
    intro j F τ X hj e24 e73 hts hqn h c
    generalize ptn t n (tq t n p0 (j - 1)) = q at *
    have fr := fr262 (τ := τ) (R := R) (nI j) (nI (R + 1))
    have h1 := h.fr fr (fun a k q => by omega)
    obtain ⟨τ2, k1, k2, k3, k4⟩ := s_283 hqn h1
    have e214 : f_X12_readLine_214 (F + 1) (nI j) τ = some ((), τ2) := by
      show f_X12_readLine_214_b (f_X12_readLine_214 F) (nI j) τ = _
      unfold f_X12_readLine_214_b
      have ew : (lg_cmp (wL (cw t n q)) 6385252 = 0) = isW t n q 6 := s_isW h.1 hqn (show 6 < 17 by omega) rfl
      rw [h.2.2, if_pos rfl, s_word h.1 hqn h.2.1, Option.bind_some, if_neg (show ¬ lg_cmp (wL (cw t n q)) 6385252 = 0 by rw [ew]; exact fun z => c (okW_isW.mpr z)), s_262 hR e24, k1]
    have f2 : Fr (cMu R) τ τ2 := (fr.mono (fun a k q => by unfold cMu; omega)).tr (k2.mono (fun a k q => cNe_Mu q))
    rw [if_neg c]
    by_cases d : okE t n q = true
    · rw [if_pos d]
      refine ⟨τ2, _, rfl, e214, f2, fun _ => ⟨k3 d, ?_, ?_, ?_, fun i hi => ?_⟩, fun z => absurd rfl z⟩
      · rw [k2.2.1 57 24 (by unfold cNe; omega), gI_same]
      · rw [k2.2.1 73 R (by unfold cNe; omega), fr.2.1 73 R (by omega)]; exact e73
      · rw [k2.2.1 74 R (by unfold cNe; omega), gI_other (Or.inl (by omega)), gI_same]
      · have hi : i < j := hi
        rw [k2.2.1 75 _ (by unfold cNe; omega), fr.2.1 75 _ (by omega), k2.2.1 75 _ (by unfold cNe; omega), fr.2.1 75 _ (by omega), k2.2.1 75 _ (by unfold cNe; omega), fr.2.1 75 _ (by omega)]
        exact hts i hi
    · rw [if_neg d]
      exact ⟨τ2, _, rfl, e214, f2, fun z => absurd z (by show ¬ (1 : Nat) = 0; decide), fun _ => k4 (bfalse d)⟩
  intro d
  induction d with
  | zero =>
    intro j F τ hd hj hF e24 e73 hts hqn h
    obtain ⟨F, rfl⟩ : ∃ F', F = F' + 1 := ⟨F - 1, by omega⟩
    by_cases c : okW t n (ptn t n (tq t n p0 (j - 1))) 6 = true
    case neg => exact notAnd j F τ _ hj e24 e73 hts hqn h c
    rw [if_pos c]
    obtain ⟨τ1, k1, k2, k3, k4, -⟩ := s_bad h.2.1.1 h.2.2 3
    obtain ⟨F, rfl⟩ : ∃ F', F = F' + 1 := ⟨F - 1, by omega⟩
    obtain ⟨τ2, w1, w2, w3⟩ := s_214f (τ := τ1) (f := 3) (q := ptn t n (tq t n p0 (j - 1))) hR (by rw [k2.2.1 57 24 (by unfold cNe; omega)]; exact e24) (by decide) (by omega) ⟨k3, k4⟩ F (nI j)
    refine ⟨τ2, _, rfl, ?_, (k2.mono (fun a k q => cNe_Mu q)).tr w2, fun z => absurd z (by show ¬ (3 : Nat) = 0; decide), fun _ => w3⟩
    show f_X12_readLine_214_b (f_X12_readLine_214 (F + 1)) (nI j) τ = _
    unfold f_X12_readLine_214_b
    have ew : (lg_cmp (wL (cw t n (ptn t n (tq t n p0 (j - 1))))) 6385252 = 0) = isW t n (ptn t n (tq t n p0 (j - 1))) 6 := s_isW h.1 hqn (show 6 < 17 by omega) rfl
    rw [h.2.2, if_pos rfl, s_word h.1 hqn h.2.1, Option.bind_some, if_pos (show lg_cmp (wL (cw t n (ptn t n (tq t n p0 (j - 1))))) 6385252 = 0 by rw [ew]; exact okW_isW.mp c), if_pos (show nI j = 4 by rw [show j = 4 by omega]; rfl), k1, Option.bind_some, w1]
  | succ d ih =>
    intro j F τ hd hj hF e24 e73 hts hqn h
    obtain ⟨F, rfl⟩ : ∃ F', F = F' + 1 := ⟨F - 1, by omega⟩
    by_cases c : okW t n (ptn t n (tq t n p0 (j - 1))) 6 = true
    case neg => exact notAnd j F τ _ hj e24 e73 hts hqn h c
    rw [if_pos c, plp_s]
    have hne := (Kt_1 (okW_1 c).1).1
    have hqn' : ptn t n (tq t n p0 (j - 1)) < n := by omega
    have r1 := nx_rng (t := t) hqn'
    have etq : tq t n p0 j = nx t n (ptn t n (tq t n p0 (j - 1))) := by
      obtain ⟨i, rfl⟩ : ∃ i, j = i + 1 := ⟨j - 1, by omega⟩
      rfl
    obtain ⟨τ1, k1, k2, k3⟩ := s_stepO hqn' h
    rw [← etq] at k3 r1
    obtain ⟨τ2, u1, u2, u3, u4⟩ := s_rtestM (τ := τ1) hR (show j < 4 by omega) (by rw [k2.2.1 57 24 (by unfold cNe; omega)]; exact e24) r1.2 k3
    have f2 : Fr (cMu R) τ τ2 := (k2.mono (fun a k q => cNe_Mu q)).tr (u2.mono (fun a k q => cMt_Mu (by omega) q))
    have e24' : gI τ2 57 24 = nI R := by rw [u2.2.1 57 24 (by unfold cMt cNe; omega), k2.2.1 57 24 (by unfold cNe; omega)]; exact e24
    have e214 : f_X12_readLine_214 (F + 1) (nI j) τ = f_X12_readLine_214 F (nI (j + 1)) τ2 := by
      show f_X12_readLine_214_b (f_X12_readLine_214 F) (nI j) τ = _
      unfold f_X12_readLine_214_b
      have ew : (lg_cmp (wL (cw t n (ptn t n (tq t n p0 (j - 1))))) 6385252 = 0) = isW t n (ptn t n (tq t n p0 (j - 1))) 6 := s_isW h.1 hqn (show 6 < 17 by omega) rfl
      rw [h.2.2, if_pos rfl, s_word h.1 hqn h.2.1, Option.bind_some, if_pos (show lg_cmp (wL (cw t n (ptn t n (tq t n p0 (j - 1))))) 6385252 = 0 by rw [ew]; exact okW_isW.mp c), if_neg (show ¬ nI j = 4 from fun z => by have := nI_inj (by omega) (by omega) (show nI j = nI 4 from z); omega), k1, Option.bind_some, u1, Option.bind_some, nI_1]
    rw [e214]
    by_cases b0 : (ptf t n (tq t n p0 j)).1 = 0
    · rw [if_pos b0]
      obtain ⟨v1, v2, v3, v4⟩ := u3 b0
      obtain ⟨q1, q2, q3, -⟩ := ptf_0 r1.2 b0
      have r3 := nx_rng (t := t) q3
      have hj1 : j + 1 - 1 = j := by omega
      have g73 : gI τ2 73 R = gI τ 73 R := by rw [u2.2.1 73 R (by unfold cMt cNe; omega), k2.2.1 73 R (by unfold cNe; omega)]
      have g75 : ∀ k, k < 12 * R + 3 * j → gI τ2 75 k = gI τ 75 k := fun k hk => by rw [u2.2.1 75 k (by unfold cMt cNe; omega), k2.2.1 75 k (by unfold cNe; omega)]
      obtain ⟨τ3, P, w0, w1, w2, w3, w4⟩ := ih (j + 1) F τ2 (by omega) (by omega) (by omega) e24' (by rw [g73]; exact e73) (fun i hi => by
        by_cases ei : i = j
        · rw [ei]; exact ⟨v2, v3, v4⟩
        · rw [g75 _ (by omega), g75 _ (by omega), g75 _ (by omega)]
          exact hts i (by omega)) (by rw [hj1]; exact r3.2) (by rw [hj1]; exact v1)
      rw [hj1] at w0
      exact ⟨τ3, P, w0, w1, f2.tr w2, w3, w4⟩
    · rw [if_neg b0]
      obtain ⟨F, rfl⟩ : ∃ F', F = F' + 1 := ⟨F - 1, by omega⟩
      obtain ⟨τ3, w1, w2, w3⟩ := s_214f (τ := τ2) hR e24' b0 ptf_lt (u4 b0) F (nI (j + 1))
      exact ⟨τ3, _, rfl, w1, f2.tr w2, fun z => absurd z b0, fun _ => w3⟩
end RM
