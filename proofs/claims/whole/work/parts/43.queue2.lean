/-! ===== the queue, the reference's; queue ===== -/
def qM (sc : Nat → Int32) (q : Nat → Nat) (m : Nat) (τ : aSt) : Prop := gI τ 57 40 = nI m ∧ ∀ i, i < m → gI τ 79 i = nI (q i) ∧ gI τ 78 (q i) = sc (q i)
section QM
variable {g : Nat → Nat → Int32} {N R : Nat} {vd : Nat → Int32}
theorem s_qInM (hw : gW g N R) {sc : Nat → Int32} {q : Nat → Nat} {p m : Nat} (hp : p < N) (hm : m < 120) (hq : ∀ j, j < m → q j < N) (rec7 : Int32 → aSt → Option (Unit × aSt)) (x1 : Int32) : ∀ (k f : Nat) (τ : aSt), k ≤ m → k < f → Ag g τ → gI τ 57 40 = nI m → gI τ 78 p = sc p → (∀ i, i < k → gI τ 79 i = nI (q i) ∧ gI τ 78 (q i) = sc (q i)) → ∃ τ', f_X12_findQueue_64 rec7 f x1 (nI p) (nI k) τ = rec7 (x1 + 1) τ' ∧ Fr (fun a k => a = 79 ∨ (a = 57 ∧ k = 40)) τ τ' ∧ gI τ' 57 40 = nI (m + 1) ∧ (∀ i, i ≤ k → gI τ' 79 i = nI (insO q p (qK (fun n => (g 65 n).toInt64 * (sc n).toInt64) q p k) i)) ∧ (∀ i, k < i → gI τ' 79 i = gI τ 79 i) := by
  have hN := hw.hN
  have fin : ∀ (k : Nat) (τ : aSt), k ≤ m → gI τ 57 40 = nI m → (∀ i, i < k → gI τ 79 i = nI (q i) ∧ gI τ 78 (q i) = sc (q i)) → qK (fun n => (g 65 n).toInt64 * (sc n).toInt64) q p k = k → ∃ τ', f_X12_findQueue_136 rec7 x1 (nI p) (nI k) τ = rec7 (x1 + 1) τ' ∧ Fr (fun a k => a = 79 ∨ (a = 57 ∧ k = 40)) τ τ' ∧ gI τ' 57 40 = nI (m + 1) ∧ (∀ i, i ≤ k → gI τ' 79 i = nI (insO q p (qK (fun n => (g 65 n).toInt64 * (sc n).toInt64) q p k) i)) ∧ (∀ i, k < i → gI τ' 79 i = gI τ 79 i) := by
    intro k τ hk h5 hr hK
    refine ⟨sI (sI τ 79 k (nI p)) 57 40 (nI (m + 1)), ?_, ?_, gI_same _ _ _ _, fun i hi => ?_, fun i hi => ?_⟩
    · unfold f_X12_findQueue_136 f_X12_findQueue_153
      rw [if_pos (ix_in (by omega) (by omega)), ix_cl (by omega), gI_other (Or.inl (by omega)), h5, nI_1]
    · exact Fr.sI (Fr.sI Fr.rf (Or.inl rfl)) (Or.inr ⟨rfl, rfl⟩)
    · rw [gI_other (Or.inl (by omega)), hK]
      unfold insO
      by_cases z : i = k
      · subst z
        rw [gI_same, if_neg (by omega), if_pos rfl]
      · rw [gI_other (Or.inr z), if_pos (by omega), (hr i (by omega)).1]
    · rw [gI_other (Or.inl (by omega)), gI_other (Or.inr (by omega))]
  intro k
  induction k with
  | zero =>
    intro f τ hk hf hA h5 hs hr
    obtain ⟨f, rfl⟩ : ∃ f', f = f' + 1 := ⟨f - 1, by omega⟩
    show ∃ τ', f_X12_findQueue_64_b rec7 (f_X12_findQueue_64 rec7 f) x1 (nI p) (nI 0) τ = _ ∧ _
    unfold f_X12_findQueue_64_b
    rw [if_pos (show nI 0 ≤ 0 from Int32.le_refl _)]
    exact fin 0 τ (by omega) h5 hr rfl
  | succ k ih =>
    intro f τ hk hf hA h5 hs hr
    obtain ⟨f, rfl⟩ : ∃ f', f = f' + 1 := ⟨f - 1, by omega⟩
    show ∃ τ', f_X12_findQueue_64_b rec7 (f_X12_findQueue_64 rec7 f) x1 (nI p) (nI (k + 1)) τ = _ ∧ _
    unfold f_X12_findQueue_64_b
    have ib : inB (nI k) 120 := ix_in (by omega) (by omega)
    have ib2 : inB (nI (k + 1)) 120 := ix_in (by omega) (by omega)
    have ibp : inB (nI p) 120 := ix_in (by omega) (by omega)
    have qk : q k < N := hq k (by omega)
    have ibq : inB (nI (q k)) 120 := ix_in (by omega) (by omega)
    obtain ⟨hrk, hsk⟩ := hr k (by omega)
    have hrk' : gI τ 79 (nI k).toNatClampNeg = nI (q k) := by rw [ix_cl (by omega)]; exact hrk
    have e1 : gI τ 65 (nI (q k)).toNatClampNeg = g 65 (q k) := by rw [ix_cl (by omega)]; exact hA.row _ (by omega)
    have e2 : gI τ 78 (nI (q k)).toNatClampNeg = sc (q k) := by rw [ix_cl (by omega)]; exact hsk
    have e3 : gI τ 65 (nI p).toNatClampNeg = g 65 p := by rw [ix_cl (by omega)]; exact hA.row _ (by omega)
    have e4 : gI τ 78 (nI p).toNatClampNeg = sc p := by rw [ix_cl (by omega)]; exact hs
    rw [if_neg (nI_nle (by omega) (by omega)), nI_s1, if_pos ib, hrk', if_pos ibq, if_pos ib, if_pos ibq, if_pos ibp, if_pos ibp, e1, e2, e3, e4]
    simp only [lc_ge]
    by_cases hb : (g 65 p).toInt64 * (sc p).toInt64 ≤ (g 65 (q k)).toInt64 * (sc (q k)).toInt64
    · rw [if_pos hb]
      refine fin (k + 1) τ hk h5 hr ?_
      show (if (g 65 p).toInt64 * (sc p).toInt64 ≤ (g 65 (q k)).toInt64 * (sc (q k)).toInt64 then k + 1 else _) = _
      rw [if_pos hb]
    · rw [if_neg hb, if_pos ib, if_pos ib2, ix_cl (by omega), nI_mm]
      have hK : qK (fun n => (g 65 n).toInt64 * (sc n).toInt64) q p (k + 1) = qK (fun n => (g 65 n).toInt64 * (sc n).toInt64) q p k := by
        show (if (g 65 p).toInt64 * (sc p).toInt64 ≤ (g 65 (q k)).toInt64 * (sc (q k)).toInt64 then k + 1 else _) = _
        rw [if_neg hb]
      obtain ⟨τ', f1, f2, f3, f4, f5⟩ := ih f (sI τ 79 (k + 1) (nI (q k))) (by omega) (by omega) (hA.wr (by simp [pers])) (by rw [gI_other (Or.inl (by omega))]; exact h5) (by rw [gI_other (Or.inl (by omega))]; exact hs) (fun i hi => by rw [gI_other (Or.inr (by omega)), gI_other (Or.inl (by omega))]; exact hr i (by omega))
      refine ⟨τ', f1, (Fr.sI Fr.rf (Or.inl rfl)).tr f2, f3, fun i hi => ?_, fun i hi => ?_⟩
      · rw [hK]
        by_cases z : i = k + 1
        · subst z
          rw [f5 (k + 1) (by omega), gI_same]
          have := qK_le (fun n => (g 65 n).toInt64 * (sc n).toInt64) q p k
          unfold insO
          rw [if_neg (by omega), if_neg (by omega)]
          rfl
        · exact f4 i (by omega)
      · rw [f5 i (by omega), gI_other (Or.inr (by omega))]
def cQM (a k : Nat) : Prop := a = 69 ∨ a = 78 ∨ a = 79 ∨ (a = 57 ∧ k = 40)
theorem cQM_scr {a k : Nat} (h : cQM a k) : scr a k := by
  unfold cQM at h
  unfold scr
  omega
theorem s_findL (hw : gW g N R) : ∀ (f k : Nat) (τ : aSt), Ag g τ → k ≤ N → N < k + f → (∀ n, n < N → gI τ 67 n = vd n) → qM (xS g N R) (qL (xW g N R) (xC g N R vd) (xOrd g) k).1 (qL (xW g N R) (xC g N R vd) (xOrd g) k).2 τ → ∃ τ', f_X12_findQueue_7 f (nI k) τ = some ((), τ') ∧ Fr cQM τ τ' ∧ qM (xS g N R) (qL (xW g N R) (xC g N R vd) (xOrd g) N).1 (qL (xW g N R) (xC g N R vd) (xOrd g) N).2 τ' := by
  intro f
  induction f with
  | zero => intro k τ _ h1 h2; omega
  | succ f ih =>
    intro k τ hk h1 h2 hv hq
    have hN := hw.hN
    show ∃ τ', f_X12_findQueue_7_b (f_X12_findQueue_7 f) (nI k) τ = _ ∧ _
    unfold f_X12_findQueue_7_b
    rw [hk.c (by omega), hw.n5]
    by_cases e : k = N
    · subst e
      rw [if_pos (Int32.le_refl _)]
      exact ⟨τ, rfl, Fr.rf, hq⟩
    have hp : xOrd g k < N := hw.olt k (by omega)
    have e68 : gI τ 68 (nI k).toNatClampNeg = nI (xOrd g k) := by rw [ix_cl (by omega), hk.row k (by omega), hw.o68 (by omega)]
    rw [if_neg (fun q => e (by rw [nI_leI (by omega) (by omega)] at q; omega)), if_pos (ix_in (by omega) (by omega)), e68]
    have eq1 : qL (xW g N R) (xC g N R vd) (xOrd g) (k + 1) = if xC g N R vd (xOrd g k) then (insO (qL (xW g N R) (xC g N R vd) (xOrd g) k).1 (xOrd g k) (qK (xW g N R) (qL (xW g N R) (xC g N R vd) (xOrd g) k).1 (xOrd g k) (qL (xW g N R) (xC g N R vd) (xOrd g) k).2), (qL (xW g N R) (xC g N R vd) (xOrd g) k).2 + 1) else qL (xW g N R) (xC g N R vd) (xOrd g) k := rfl
    have hlt := qL_lt (w := xW g N R) (c := xC g N R vd) hw.olt k (by omega)
    have hle := qL_le (xW g N R) (xC g N R vd) (xOrd g) k
    generalize hp0 : xOrd g k = p at *
    generalize hs : qL (xW g N R) (xC g N R vd) (xOrd g) k = s at *
    have ibp : inB (nI p) 120 := ix_in (by omega) (by omega)
    obtain ⟨τ1, a1, a2, aL, a3⟩ := s_scoreM hw hk hp (kn := 0) (by omega)
    rw [show f_X12_scoreOf (nI p) 0 τ = _ from a1]
    simp only [Option.bind_some]
    have es : xWt g R (xSet g N R p 0 (g 65 p)) = xS g N R p := rfl
    simp only [es, if_pos ibp, ix_cl (show p < 2147483648 by omega)]
    generalize hτ2 : sI τ1 78 p (xS g N R p) = τ2
    have fr2 : Fr cQM τ τ2 := by
      rw [← hτ2]
      refine Fr.sI (a2.mono (fun a k q => ?_)) ?_
      · unfold cQM; omega
      · unfold cQM; omega
    have hA2 : Ag g τ2 := hk.fr2 fr2 (fun a k q => cQM_scr q)
    have hv2 : ∀ n, n < N → gI τ2 67 n = vd n := fun n hn => by rw [fr2.2.1 _ _ (by unfold cQM; omega)]; exact hv n hn
    have hsp : gI τ2 78 p = xS g N R p := by rw [← hτ2, gI_same]
    have hq2 : qM (xS g N R) s.1 s.2 τ2 := by
      refine ⟨?_, fun i hi => ⟨?_, ?_⟩⟩
      · rw [← hτ2, gI_other (Or.inl (by omega)), a2.2.1 57 40 (by omega)]
        exact hq.1
      · rw [← hτ2, gI_other (Or.inl (by omega)), a2.2.1 79 i (by omega)]
        exact (hq.2 i hi).1
      · by_cases z : s.1 i = p
        · rw [z]; exact hsp
        · rw [← hτ2, gI_other (Or.inr z), a2.2.1 78 _ (by omega)]
          exact (hq.2 i hi).2
    rw [hv2 p hp]
    by_cases c : vd p = -1000000
    case neg =>
      rw [if_neg c]
      unfold f_X12_findQueue_153
      rw [if_neg (show ¬ xC g N R vd p = true by unfold xC; simp [c])] at eq1
      rw [← eq1] at hq2
      obtain ⟨τ3, b1, b2, b3⟩ := ih (k + 1) τ2 hA2 (by omega) (by omega) hv2 hq2
      refine ⟨τ3, ?_, fr2.tr b2, b3⟩
      rw [nI_1]
      exact b1
    rw [if_pos c, hsp, s_actBy hA2]
    have ea : xAct g (xS g N R p) = xA g N R p 0 := rfl
    simp only [Option.bind_some]
    rw [ea]
    by_cases d : xA g N R p 0 = 1
    case neg =>
      rw [if_neg d]
      unfold f_X12_findQueue_153
      rw [if_neg (show ¬ xC g N R vd p = true by unfold xC; simp [d])] at eq1
      rw [← eq1] at hq2
      obtain ⟨τ3, b1, b2, b3⟩ := ih (k + 1) τ2 hA2 (by omega) (by omega) hv2 hq2
      refine ⟨τ3, ?_, fr2.tr b2, b3⟩
      rw [nI_1]
      exact b1
    rw [if_pos d, hq2.1]
    rw [if_pos (show xC g N R vd p = true by unfold xC; simp [c, d])] at eq1
    obtain ⟨τ3, d1, d2, d3, d4, d5⟩ := s_qInM hw (sc := xS g N R) (q := s.1) hp (show s.2 < 120 by omega) hlt (f_X12_findQueue_7 f) (nI k) s.2 aN τ2 (Nat.le_refl _) (by show s.2 < 1000000; omega) hA2 hq2.1 hsp hq2.2
    rw [d1, nI_1]
    have fr3 : Fr cQM τ2 τ3 := d2.mono (fun a k q => by unfold cQM; omega)
    have hq3 : qM (xS g N R) (insO s.1 p (qK (xW g N R) s.1 p s.2)) (s.2 + 1) τ3 := by
      refine ⟨d3, fun i hi => ⟨d4 i (by omega), ?_⟩⟩
      rw [d2.2.1 78 _ (by omega)]
      unfold insO
      by_cases z : i < qK (xW g N R) s.1 p s.2
      · rw [if_pos z]
        have := qK_le (xW g N R) s.1 p s.2
        exact (hq2.2 i (by omega)).2
      · rw [if_neg z]
        by_cases y : i = qK (xW g N R) s.1 p s.2
        · rw [if_pos y]; exact hsp
        · rw [if_neg y]; exact (hq2.2 (i - 1) (by omega)).2
    obtain ⟨τ4, b1, b2, b3⟩ := ih (k + 1) τ3 (hA2.fr2 fr3 (fun a k q => cQM_scr q)) (by omega) (by omega) (fun n hn => by rw [fr3.2.1 _ _ (by unfold cQM; omega)]; exact hv2 n hn) (by rw [eq1]; exact hq3)
    exact ⟨τ4, b1, fr2.tr (fr3.tr b2), b3⟩
theorem s_findQ (hw : gW g N R) {τ : aSt} (h : Ag g τ) (hv : ∀ n, n < N → gI τ 67 n = vd n) : ∃ τ', f_X12_findQueue τ = some ((), τ') ∧ Fr cQM τ τ' ∧ qM (xS g N R) (qL (xW g N R) (xC g N R vd) (xOrd g) N).1 (qL (xW g N R) (xC g N R vd) (xOrd g) N).2 τ' := by
  have hN := hw.hN
  obtain ⟨τ', a1, a2, a3⟩ := s_findL (vd := vd) hw aN 0 (sI τ 57 40 0) (h.wr (scr_pers (by simp [scr]))) (by omega) (by show N < 0 + 1000000; omega) (fun n hn => by rw [gI_other (Or.inl (by omega))]; exact hv n hn) ⟨gI_same _ _ _ _, fun i hi => absurd hi (Nat.not_lt_zero _)⟩
  refine ⟨τ', a1, (Fr.sI Fr.rf ?_).tr a2, a3⟩
  unfold cQM
  omega
end QM
theorem pmax {m : Nat} (h : m ≤ 120) (p : Int32) : (0 ≤ p ∧ p ≤ nI m - 1) ↔ ∃ i, i < m ∧ p = nI i := by
  constructor
  · intro ⟨h1, h2⟩
    rw [pi_le] at h1 h2
    rw [pi_sub (by rw [pi_nI (by omega), show (1 : Int32).toInt = 1 from rfl]; omega) (by rw [pi_nI (by omega), show (1 : Int32).toInt = 1 from rfl]; omega), pi_nI (by omega), show (1 : Int32).toInt = 1 from rfl] at h2
    rw [show (0 : Int32).toInt = 0 from rfl] at h1
    exact ⟨p.toInt.toNat, by omega, pi_of h1⟩
  · rintro ⟨i, hi, rfl⟩
    refine ⟨nI_ge0 (by omega), ?_⟩
    rw [pi_le, pi_sub (by rw [pi_nI (by omega), show (1 : Int32).toInt = 1 from rfl]; omega) (by rw [pi_nI (by omega), show (1 : Int32).toInt = 1 from rfl]; omega), pi_nI (by omega), pi_nI (by omega), show (1 : Int32).toInt = 1 from rfl]
    omega
/-- both queues, from one state -/
theorem Inv.line {σ : aSt} (h : Inv σ) : ∃ (N b R : Nat) (q : Nat → Nat) (m : Nat) (σ1 σ2 : aSt), gW (vw σ) N R ∧ m ≤ N ∧ (∀ i, i < m → q i < N) ∧ f_X2_lineUp σ = some ((), σ1) ∧ cG (vw σ) N R b σ1 ∧ gI σ1 11 2 = nI m ∧ (∀ i, i < m → gR σ1 19 i = some (84 + q i)) ∧ f_X12_findQueue (sI σ1 57 0 0) = some ((), σ2) ∧ Ag (vw σ) σ2 ∧ gI σ2 57 40 = nI m ∧ (∀ i, i < m → gI σ2 79 i = nI (q i)) ∧ Inv σ2 := by
  obtain ⟨N, b, R, hw, hc, hca, hp, -⟩ := h.data
  have hA := Ag.self σ
  have hv : ∀ n, n < N → gI σ (84 + n) 7 = gI σ 67 n := fun n hn => (hp.2.2.2.2.2.1 n hn).2.2.2.2.2.2.2
  obtain ⟨σ1, a1, a2, a3, a4⟩ := s_line (vd := fun n => gI σ 67 n) hw ⟨hc, pCa.of hca⟩ hv
  have hA1 : Ag (vw σ) σ1 := hA.fr a2 (fun a k q => cQ_pers q)
  obtain ⟨σ2, b1, b2, b3⟩ := s_findQ (vd := fun n => gI σ 67 n) hw hA1.th (fun n hn => by rw [gI_other (Or.inl (by omega)), a2.2.1 67 n (by unfold cQ; omega)])
  exact ⟨N, b, R, _, _, σ1, σ2, hw, qL_le _ _ _ _, qL_lt hw.olt N (Nat.le_refl _), a1, a3.1, a4.1, fun i hi => (a4.2 i hi).2, b1, hA1.th.fr2 b2 (fun a k q => cQM_scr q), b3.1, fun i hi => (b3.2 i hi).1, ((h.ca hw (a2.mono (fun a k q => cQ_ask q)) a3.2).thr 0).fr (b2.mono (fun a k q => cQM_scr q))⟩
theorem op_queue {σ : aSt} (h : Inv σ) (p1 : Int32) : Op (f_X11_queue p1) (f_X12_queue p1) σ := by
  obtain ⟨N, b, R, q, m, σ1, σ2, hw, hm, hq, a1, a2, a3, a4, b1, b2, b3, b4, hI⟩ := h.line
  have hN := hw.hN
  have ew : ∀ τ, f_X12_in p1.toInt64 0 (nI m - 1).toInt64 τ = some (bI (decide (0 ≤ p1 ∧ p1 ≤ nI m - 1)), τ) := fun τ => s_in 0 (nI m - 1).toInt64 0 (nI m - 1) rfl rfl τ
  by_cases c : 0 ≤ p1 ∧ p1 ≤ nI m - 1
  · obtain ⟨i, hi, rfl⟩ := (pmax (by omega) p1).mp c
    refine ⟨vw σ 61 (q i), σ1, σ2, ?_, ?_, hI⟩
    · unfold f_X11_queue
      rw [a1]
      simp only [Option.bind_some]
      rw [a3, s_within]
      simp only [Option.bind_some, bI_0, decide_eq_false_iff_not]
      rw [if_neg (not_not_intro c), if_pos (ix_in (by omega) (by omega)), ix_cl (by omega), a4 i hi]
      simp only [oC_some]
      rw [if_pos (a2.ok (hq i hi)), (a2.pay (hq i hi)).1]
    · unfold f_X12_queue f_X12_queue_41
      rw [b1]
      simp only [Option.bind_some]
      rw [b3, ew]
      simp only [Option.bind_some, bI_0, decide_eq_false_iff_not]
      have hqi := hq i hi
      rw [if_neg (not_not_intro c), if_pos (ix_in (by omega) (by omega)), ix_cl (n := i) (by omega), b4 i hi, if_pos (ix_in (by omega) (by omega)), ix_cl (by omega), b2.row _ (by omega)]
  · refine ⟨-1000000, σ1, σ2, ?_, ?_, hI⟩
    · unfold f_X11_queue
      rw [a1]
      simp only [Option.bind_some]
      rw [a3, s_within]
      simp only [Option.bind_some, bI_0, decide_eq_false_iff_not]
      rw [if_pos c]
    · unfold f_X12_queue f_X12_queue_41
      rw [b1]
      simp only [Option.bind_some]
      rw [b3, ew]
      simp only [Option.bind_some, bI_0, decide_eq_false_iff_not]
      rw [if_pos c]
