/-! ===== the reference reads a line, and all lines ===== -/
section LM
variable {t : Nat → Nat} {n : Nat} {τ : aSt}
theorem rowM.fr {C : Nat → Nat → Prop} {τ' : aSt} {r w p0 c : Nat} (h : rowM t n r w p0 c τ) (f : Fr C τ τ') (hc4 : c ≤ 4) (h1 : ¬ C 73 r) (h2 : ¬ C 74 r) (h3 : ∀ k, 12 * r ≤ k → k < 12 * r + 12 → ¬ C 75 k) : rowM t n r w p0 c τ' := by
  refine ⟨by rw [f.2.1 _ _ h1]; exact h.1, by rw [f.2.1 _ _ h2]; exact h.2.1, fun j hj => ?_⟩
  rw [f.2.1 75 _ (h3 _ (by omega) (by omega)), f.2.1 75 _ (h3 _ (by omega) (by omega)), f.2.1 75 _ (h3 _ (by omega) (by omega))]
  exact h.2.2 j hj
theorem cNe_Mr {a k : Nat} (h : cNe a k) : cMr a k := by unfold cNe at h; unfold cMr; omega
theorem cMu_Mr {R a k : Nat} (h : cMu R a k) : cMr a k := by unfold cMu at h; unfold cMr; omega
theorem pnum_lt {lo hi : Int32} {p : Nat} : pnum t n lo hi p < 100 := by
  unfold pnum
  repeat' split
  all_goals omega
/-- the weight is read; the rest of the rule -/
theorem s_ruleM {R p : Nat} (hR : R < 12) (hp : p < n) (h : mO t n p τ) (e24 : gI τ 57 24 = nI R) : ∃ τ', f_X12_readLine_98 (-1000000) 1 τ = some ((), τ') ∧ Fr (cMu R) τ τ' ∧ ((prul t n R p).1 = 0 → mO t n (prul t n R p).2.1 τ' ∧ gI τ' 57 24 = nI (R + 1) ∧ rowM t n R (nx t n p) (nx t n (nx t n (nx t n p))) (prul t n R p).2.2 τ') ∧ ((prul t n R p).1 ≠ 0 → fM (prul t n R p).1 (prul t n R p).2.1 τ') := by
  have r1 := nx_rng (t := t) hp
  obtain ⟨τ1, k1, k2, k3⟩ := s_needY hp h 1 (by decide)
  obtain ⟨τ2, u1, u2, u3, u4⟩ := s_numIn r1.2 k3 1 1000
  have e24' : gI τ1 57 24 = nI R := by rw [k2.2.1 57 24 (by unfold cNe; omega)]; exact e24
  have e24'' : gI τ2 57 24 = nI R := by rw [u2.2.1 57 24 (by unfold cNe; omega)]; exact e24'
  unfold f_X12_readLine_98
  rw [k1, Option.bind_some, k3.2.2, if_pos (Int32.le_refl _), if_pos rfl, u1, Option.bind_some, e24', if_pos (ix_in hR (by omega)), ix_cl (by omega)]
  have frW : ∀ v, Fr (fun a k => a = 73 ∧ k = R) τ2 (sI τ2 73 R v) := fun v => Fr.sI Fr.rf ⟨rfl, rfl⟩
  have f02 : Fr (cMu R) τ τ2 := (k2.tr u2).mono (fun a k q => cNe_Mu q)
  have hlt : ¬ 12 ≤ R := by omega
  by_cases c : pnum t n 1 1000 (nx t n p) = 0
  case neg =>
    have ep : prul t n R p = (pnum t n 1 1000 (nx t n p), nx t n p, 0) := by unfold prul; rw [if_neg hlt, if_neg c]
    have hf : fM (pnum t n 1 1000 (nx t n p)) (nx t n p) τ2 := u4 c
    generalize (if Kt t n (nx t n p) = 2 then Vt t n (nx t n p) else 0) = W
    have hf' := hf.fr (frW W) (fun a k q => by omega)
    have fne : ¬ gI (sI τ2 73 R W) 57 37 = 0 := by
      rw [hf'.1]
      exact fun z => c (nI_inj (by have := pnum_lt (t := t) (n := n) (lo := 1) (hi := 1000) (p := nx t n p); omega) (by omega) (show nI _ = nI 0 from z))
    obtain ⟨τ3, w1, w2, w3⟩ := s_214f (τ := sI τ2 73 R W) hR (by rw [gI_other (Or.inl (by omega))]; exact e24'') c pnum_lt hf' 999999 0
    refine ⟨τ3, ?_, f02.tr (((frW W).mono (fun a k q => by unfold cMu; omega)).tr w2), fun z => ?_, fun _ => ?_⟩
    · rw [if_neg fne]
      unfold f_X12_readLine_196
      rw [if_neg fne]
      exact w1
    · rw [ep] at z; exact absurd z c
    · rw [ep]; exact w3
  obtain ⟨x1, x2⟩ := u3 c
  have hK2 := (pnum_0 c).1
  rw [if_pos hK2]
  have h3 := x2.fr (frW (Vt t n (nx t n p))) (fun a k q => by omega)
  have r2 := nx_rng (t := t) x1
  have v73 : gI (sI τ2 73 R (Vt t n (nx t n p))) 73 R = Vt t n (nx t n p) := gI_same _ _ _ _
  have e243 : gI (sI τ2 73 R (Vt t n (nx t n p))) 57 24 = nI R := by rw [gI_other (Or.inl (by omega))]; exact e24''
  have f03 : Fr (cMu R) τ (sI τ2 73 R (Vt t n (nx t n p))) := f02.tr ((frW _).mono (fun a k q => by unfold cMu; omega))
  generalize sI τ2 73 R (Vt t n (nx t n p)) = τ3 at *
  rw [h3.2.2, if_pos rfl, s_word h3.1 r2.2 h3.2.1, Option.bind_some]
  have ew : (lg_cmp (wL (cw t n (nx t n (nx t n p)))) 26982 = 0) = isW t n (nx t n (nx t n p)) 5 := s_isW h3.1 r2.2 (show 5 < 17 by omega) rfl
  by_cases d : okW t n (nx t n (nx t n p)) 5 = true
  case neg =>
    have ep : prul t n R p = (1, nx t n (nx t n p), 0) := by unfold prul; rw [if_neg hlt, if_pos c, if_neg d]
    rw [if_neg (show ¬ lg_cmp (wL (cw t n (nx t n (nx t n p)))) 26982 = 0 by rw [ew]; exact fun z => d (okW_isW.mpr z))]
    obtain ⟨τ4, w1, w2, w3, w4⟩ := s_needN h3
    obtain ⟨τ5, y1, y2, y3⟩ := s_214f (τ := τ4) (f := 1) (q := nx t n (nx t n p)) hR (by rw [w2.2.1 57 24 (by unfold cNe; omega)]; exact e243) (by decide) (by omega) ⟨w3, w4⟩ 999999 0
    refine ⟨τ5, ?_, f03.tr ((w2.mono (fun a k q => cNe_Mu q)).tr y2), fun z => ?_, fun _ => ?_⟩
    · unfold f_X12_readLine_193 f_X12_readLine_196
      rw [w1, Option.bind_some, w3, if_neg (by decide)]
      exact y1
    · rw [ep] at z; exact absurd z (by show ¬ (1 : Nat) = 0; decide)
    · rw [ep]; exact y3
  have ep : prul t n R p = plp t n (nx t n (nx t n (nx t n p))) 4 0 := by unfold prul; rw [if_neg hlt, if_pos c, if_pos d]
  rw [if_pos (show lg_cmp (wL (cw t n (nx t n (nx t n p)))) 26982 = 0 by rw [ew]; exact okW_isW.mp d)]
  have hne := (Kt_1 (okW_1 d).1).1
  obtain ⟨τ4, w1, w2, w3⟩ := s_needY (show nx t n (nx t n p) < n by omega) h3 1 (by decide)
  have r3 := nx_rng (t := t) (show nx t n (nx t n p) < n by omega)
  have e244 : gI τ4 57 24 = nI R := by rw [w2.2.1 57 24 (by unfold cNe; omega)]; exact e243
  obtain ⟨τ5, y1, y2, y3, y4⟩ := s_rtestM (τ := τ4) hR (show 0 < 4 by omega) e244 r3.2 w3
  have e196 : f_X12_readLine_193 1 τ3 = f_X12_readLine_214 aN 1 τ5 := by
    unfold f_X12_readLine_193 f_X12_readLine_196
    rw [w1, Option.bind_some, w3.2.2, if_pos rfl, show f_X12_readTest 0 τ4 = _ from y1, Option.bind_some]
  rw [e196, ep, plp_s]
  have f05 : Fr (cMu R) τ τ5 := f03.tr ((w2.mono (fun a k q => cNe_Mu q)).tr (y2.mono (fun a k q => cMt_Mu (by omega) q)))
  have e245 : gI τ5 57 24 = nI R := by rw [y2.2.1 57 24 (by unfold cMt cNe; omega)]; exact e244
  have etq : tq t n (nx t n (nx t n (nx t n p))) 0 = nx t n (nx t n (nx t n p)) := rfl
  rw [etq]
  by_cases b0 : (ptf t n (nx t n (nx t n (nx t n p)))).1 = 0
  · rw [if_pos b0]
    obtain ⟨v1, v2, v3, v4⟩ := y3 b0
    obtain ⟨q1, q2, q3, -⟩ := ptf_0 r3.2 b0
    have r4 := nx_rng (t := t) q3
    obtain ⟨τ6, P, z0, z1, z2, z3, z4⟩ := s_214 (t := t) (n := n) (w := nx t n p) (p0 := nx t n (nx t n (nx t n p))) hR 3 1 aN τ5 rfl (by omega) (by show 3 + 2 < 1000000; omega) e245 (by rw [y2.2.1 73 R (by unfold cMt cNe; omega), w2.2.1 73 R (by unfold cNe; omega)]; exact v73) (fun i hi => by
      rw [show i = 0 by omega]
      exact ⟨v2, v3, v4⟩) r4.2 v1
    have z0' : P = (if okW t n (ptn t n (nx t n (nx t n (nx t n p)))) 6 then plp t n (nx t n (nx t n (nx t n p))) 3 1 else if okE t n (ptn t n (nx t n (nx t n (nx t n p)))) then (0, nx t n (ptn t n (nx t n (nx t n (nx t n p)))), 1) else (1, ptn t n (nx t n (nx t n (nx t n p))), 1)) := z0
    rw [show (0 : Nat) + 1 = 1 from rfl, ← z0']
    exact ⟨τ6, z1, f05.tr z2, z3, z4⟩
  · rw [if_neg b0]
    obtain ⟨τ6, z1, z2, z3⟩ := s_214f (τ := τ5) hR e245 b0 ptf_lt (y4 b0) 999999 1
    exact ⟨τ6, z1, f05.tr z2, fun z => absurd z b0, fun _ => z3⟩
theorem s_limM {k p : Nat} (hk : k < 4) (hp : p < n) (h : mO t n p τ) : ∃ τ', f_X12_readLine_98 (nI k) 1 τ = some ((), τ') ∧ Fr (fun a y => cNe a y ∨ (a = 76 ∧ y = k)) τ τ' ∧ ((plim t n k p).1 = 0 → mO t n (plim t n k p).2 τ' ∧ gI τ' 76 k = Vt t n (nx t n p)) ∧ ((plim t n k p).1 ≠ 0 → fM (plim t n k p).1 (plim t n k p).2 τ') := by
  have r1 := nx_rng (t := t) hp
  obtain ⟨τ1, k1, k2, k3⟩ := s_needY hp h 1 (by decide)
  have e145 : f_X12_readLine_98 (nI k) 1 τ = f_X12_readLine_145 (nI k) (loL k) (hiL k) τ1 := by
    unfold f_X12_readLine_98 f_X12_readLine_131
    rw [k1, Option.bind_some, k3.2.2, if_pos (Int32.le_refl _)]
    rcases (by omega : k = 0 ∨ k = 1 ∨ k = 2 ∨ k = 3) with q | q | q | q <;> subst q
    · rw [if_neg (by decide), if_neg (by decide), if_neg (by decide)]; rfl
    · rw [if_neg (by decide), if_neg (by decide), if_neg (by decide)]; rfl
    · rw [if_neg (by decide), if_pos (by decide), if_pos (by decide)]; rfl
    · rw [if_neg (by decide), if_pos (by decide), if_pos (by decide)]; rfl
  rw [e145]
  obtain ⟨τ2, u1, u2, u3, u4⟩ := s_numIn r1.2 k3 (loL k) (hiL k)
  unfold f_X12_readLine_145
  rw [u1, Option.bind_some, if_pos (ix_in hk (by omega)), ix_cl (by omega)]
  have frW : ∀ v, Fr (fun a y => a = 76 ∧ y = k) τ2 (sI τ2 76 k v) := fun v => Fr.sI Fr.rf ⟨rfl, rfl⟩
  have f02 : Fr (fun a y => cNe a y ∨ (a = 76 ∧ y = k)) τ τ2 := (k2.tr u2).mono (fun a k q => Or.inl q)
  by_cases c : pnum t n (loL k) (hiL k) (nx t n p) = 0
  case neg =>
    have ep : plim t n k p = (pnum t n (loL k) (hiL k) (nx t n p), nx t n p) := by unfold plim; rw [if_neg c]
    generalize (if Kt t n (nx t n p) = 2 then Vt t n (nx t n p) else 0) = W
    have hf' : fM (pnum t n (loL k) (hiL k) (nx t n p)) (nx t n p) (sI τ2 76 k W) := (show fM _ _ τ2 from u4 c).fr (frW W) (fun a k q => by omega)
    refine ⟨_, s_283f c pnum_lt hf', f02.tr ((frW W).mono (fun a k q => Or.inr q)), fun z => ?_, fun _ => ?_⟩
    · rw [ep] at z; exact absurd z c
    · rw [ep]; exact hf'
  obtain ⟨x1, x2⟩ := u3 c
  rw [if_pos (pnum_0 c).1]
  have h3 := x2.fr (frW (Vt t n (nx t n p))) (fun a k q => by omega)
  have r2 := nx_rng (t := t) x1
  obtain ⟨τ3, w1, w2, w3, w4⟩ := s_283 r2.2 h3
  have v76 : gI τ3 76 k = Vt t n (nx t n p) := by rw [w2.2.1 76 k (by unfold cNe; omega), gI_same]
  have f03 : Fr (fun a y => cNe a y ∨ (a = 76 ∧ y = k)) τ τ3 := f02.tr (((frW _).mono (fun a k q => Or.inr q)).tr (w2.mono (fun a k q => Or.inl q)))
  by_cases d : okE t n (nx t n (nx t n p)) = true
  · have ep : plim t n k p = (0, nx t n (nx t n (nx t n p))) := by unfold plim; rw [if_pos c, if_pos d]
    rw [ep]
    exact ⟨τ3, w1, f03, fun _ => ⟨w3 d, v76⟩, fun z => absurd rfl z⟩
  · have ep : plim t n k p = (1, nx t n (nx t n p)) := by unfold plim; rw [if_pos c, if_neg d]
    rw [ep]
    exact ⟨τ3, w1, f03, fun z => absurd z (by show ¬ (1 : Nat) = 0; decide), fun _ => w4 (bfalse d)⟩
theorem s_lineM {lim : Nat → Int32} {R p : Nat} {wp cn : Nat → Nat} (hv : vD t n lim R wp cn) (hk : bkM t n lim R wp cn τ) (hp : p < n) (h : mO t n p τ) : ∃ τ', f_X12_readLine τ = some ((), τ') ∧ Fr cMr τ τ' ∧ ((sF t n R p).1 = 0 → mO t n (sF t n R p).2 τ' ∧ bkM t n (sLim t n p lim) (sR' t n p R) (sWp t n p R wp) (sCn t n p R cn) τ') ∧ ((sF t n R p).1 ≠ 0 → fM (sF t n R p).1 (sF t n R p).2 τ') := by
  obtain ⟨bk1, bk2, bk3⟩ := hk
  have hp' : p ≤ n := by omega
  have e0 : (lg_cmp (wL (cw t n p)) 131294707347319 = 0) = (Kt t n p = 1 ∧ Vt t n p = nI 0) := s_isW h.1 hp' (show 0 < 17 by omega) rfl
  have e1 : (lg_cmp (wL (cw t n p)) 431197741433 = 0) = (Kt t n p = 1 ∧ Vt t n p = nI 1) := s_isW h.1 hp' (show 1 < 17 by omega) rfl
  have e2 : (lg_cmp (wL (cw t n p)) 1819242347 = 0) = (Kt t n p = 1 ∧ Vt t n p = nI 2) := s_isW h.1 hp' (show 2 < 17 by omega) rfl
  have e3 : (lg_cmp (wL (cw t n p)) 422726034283 = 0) = (Kt t n p = 1 ∧ Vt t n p = nI 3) := s_isW h.1 hp' (show 3 < 17 by omega) rfl
  have e4 : (lg_cmp (wL (cw t n p)) 1920298085 = 0) = (Kt t n p = 1 ∧ Vt t n p = nI 4) := s_isW h.1 hp' (show 4 < 17 by omega) rfl
  have ne : ∀ {a c : Nat}, a < 100 → c < 100 → a ≠ c → nI a = nI c → False := fun h1 h2 h3 z => h3 (nI_inj (by omega) (by omega) z)
  by_cases c : okL t n p = true
  · obtain ⟨l1, l2, l3⟩ := okL_k c
    have eS : sF t n R p = plim t n (lk t n p) p := by unfold sF; rw [if_pos c]
    generalize hkk : lk t n p = k at *
    have no : ∀ j, j < 100 → j ≠ k → ¬ (Kt t n p = 1 ∧ Vt t n p = nI j) := fun j hj hjk z => ne hj (by omega) hjk (z.2.symm.trans l3)
    have el : f_X12_readLine τ = f_X12_readLine_98 (nI k) 1 τ := by
      unfold f_X12_readLine f_X12_readLine_27 f_X12_readLine_77 f_X12_readLine_93
      rw [s_word h.1 hp' h.2.1, Option.bind_some]
      simp only [e0, e1, e2, e3, e4]
      rw [if_neg (no 4 (by omega) (by omega))]
      rcases (by omega : k = 0 ∨ k = 1 ∨ k = 2 ∨ k = 3) with q | q | q | q <;> subst q
      · rw [if_pos ⟨l1, l3⟩, if_neg (by decide)]; rfl
      · rw [if_neg (no 0 (by omega) (by omega)), if_pos ⟨l1, l3⟩, if_neg (by decide)]; rfl
      · rw [if_neg (no 0 (by omega) (by omega)), if_neg (no 1 (by omega) (by omega)), if_pos ⟨l1, l3⟩, if_neg (by decide)]; rfl
      · rw [if_neg (no 0 (by omega) (by omega)), if_neg (no 1 (by omega) (by omega)), if_neg (no 2 (by omega) (by omega)), if_pos ⟨l1, l3⟩, if_neg (by decide)]; rfl
    rw [el, eS]
    obtain ⟨τ1, k1, k2, k3, k4⟩ := s_limM l2 hp h
    refine ⟨τ1, k1, k2.mono (fun a y q => ?_), fun z => ⟨(k3 z).1, ?_⟩, k4⟩
    · rcases q with q | q
      · exact cNe_Mr q
      · unfold cMr; omega
    · unfold sLim sR' sWp sCn
      simp only [if_pos c, hkk]
      refine ⟨by rw [k2.2.1 57 24 (by unfold cNe; omega)]; exact bk1, fun i hi => ?_, fun r hr => ?_⟩
      · by_cases e : i = k
        · rw [e, up_same]; exact (k3 z).2
        · rw [up_other e, k2.2.1 76 i (by unfold cNe; omega)]
          exact bk2 i hi
      · exact (bk3 r hr).fr k2 (hv.2.2 r hr).2.2.1 (by unfold cNe; omega) (by unfold cNe; omega) (fun k _ _ => by unfold cNe; omega)
  · have no : ∀ j, j < 4 → ¬ (Kt t n p = 1 ∧ Vt t n p = nI j) := fun j hj z => c (by
      unfold okL
      rw [decide_eq_true z.1, z.2]
      rcases (by omega : j = 0 ∨ j = 1 ∨ j = 2 ∨ j = 3) with q | q | q | q <;> subst q <;> rfl)
    have e27 : ∀ τ', f_X12_readLine_27 (wL (cw t n p)) τ' = (if Kt t n p = 1 ∧ Vt t n p = nI 4 then f_X12_readLine_98 (-1000000) 1 τ' else f_X12_readLine_98 (-1000000) 0 τ') := fun τ' => by
      unfold f_X12_readLine_27 f_X12_readLine_77 f_X12_readLine_93
      simp only [e0, e1, e2, e3, e4]
      rw [if_neg (no 0 (by omega)), if_neg (no 1 (by omega)), if_neg (no 2 (by omega)), if_neg (no 3 (by omega)), if_pos trivial]
    have el : f_X12_readLine τ = (if Kt t n p = 1 ∧ Vt t n p = nI 4 then (if nI R = 12 then (f_X12_bad 3 τ).bind (fun q5 => f_X12_readLine_98 (-1000000) 1 q5.2) else f_X12_readLine_98 (-1000000) 1 τ) else f_X12_readLine_98 (-1000000) 0 τ) := by
      unfold f_X12_readLine
      rw [s_word h.1 hp' h.2.1, Option.bind_some]
      simp only [e4, e27, bk1]
      by_cases q : Kt t n p = 1 ∧ Vt t n p = nI 4
      · simp only [if_pos q]
      · simp only [if_neg q]
    rw [el]
    by_cases d : okW t n p 4 = true
    · have eS : sF t n R p = ((prul t n R p).1, (prul t n R p).2.1) := by unfold sF; rw [if_neg c, if_pos d]
      rw [if_pos (okW_1 d), eS]
      have hR12 := hv.1
      by_cases r12 : R = 12
      · rw [if_pos (show nI R = 12 by rw [r12]; rfl)]
        have ep : prul t n R p = (3, p, 0) := by unfold prul; rw [if_pos (by omega)]
        obtain ⟨τ1, k1, k2, k3, k4, -⟩ := s_bad h.2.1.1 h.2.2 3
        refine ⟨τ1, ?_, k2.mono (fun a k q => cNe_Mr q), fun z => ?_, fun _ => ?_⟩
        · rw [k1, Option.bind_some]
          unfold f_X12_readLine_98 f_X12_need f_X12_need_9 f_X12_need_20
          rw [if_neg (by decide), k3, if_neg (by decide), Option.bind_some, k3, if_neg (by decide)]
        · rw [ep] at z; exact absurd z (by show ¬ (3 : Nat) = 0; decide)
        · rw [ep]; exact ⟨k3, k4⟩
      · rw [if_neg (show ¬ nI R = 12 from fun z => r12 (nI_inj (by omega) (by omega) (show nI R = nI 12 from z)))]
        obtain ⟨τ1, k1, k2, k3, k4⟩ := s_ruleM (show R < 12 by omega) hp h bk1
        refine ⟨τ1, k1, k2.mono (fun a k q => cMu_Mr q), fun z => ?_, k4⟩
        obtain ⟨z1, z2, z3⟩ := k3 z
        refine ⟨z1, ?_⟩
        unfold sLim sR' sWp sCn
        simp only [if_neg c]
        refine ⟨z2, fun i hi => by rw [k2.2.1 76 i (by unfold cMu; omega)]; exact bk2 i hi, fun r hr => ?_⟩
        by_cases e : r = R
        · rw [e, up_same, up_same]; exact z3
        · rw [up_other e, up_other e]
          have hr3 : r < R := by omega
          exact (bk3 r hr3).fr k2 (hv.2.2 r hr3).2.2.1 (by unfold cMu; omega) (by unfold cMu; omega) (fun k q1 q2 => by unfold cMu; omega)
    · have eS : sF t n R p = (1, p) := by unfold sF; rw [if_neg c, if_neg d]
      rw [if_neg (show ¬ (Kt t n p = 1 ∧ Vt t n p = nI 4) from fun z => d (okW_isW.mpr z)), eS]
      obtain ⟨τ1, k1, k2, k3, k4⟩ := s_needN h
      refine ⟨τ1, ?_, k2.mono (fun a k q => cNe_Mr q), fun z => absurd z (by show ¬ (1 : Nat) = 0; decide), fun _ => ⟨k3, k4⟩⟩
      unfold f_X12_readLine_98
      rw [k1, Option.bind_some, k3, if_neg (by decide)]
theorem s_rdM : ∀ (f F p : Nat) (τ : aSt) (lim : Nat → Int32) (R : Nat) (wp cn : Nat → Nat), n - p < f → n - p + 1 < F → p ≤ n → vD t n lim R wp cn → bkM t n lim R wp cn τ → mO t n p τ → ∃ τ', f_X12_rules_69 F τ = f_X12_rules_91 τ' ∧ Fr cMr τ τ' ∧ ((rd t n f p lim R wp cn).1.1 = 0 → gI τ' 57 37 = 0 ∧ bkM t n (rd t n f p lim R wp cn).2.1 (rd t n f p lim R wp cn).2.2.1 (rd t n f p lim R wp cn).2.2.2.1 (rd t n f p lim R wp cn).2.2.2.2 τ') ∧ ((rd t n f p lim R wp cn).1.1 ≠ 0 → fM (rd t n f p lim R wp cn).1.1 (rd t n f p lim R wp cn).1.2 τ') := by
  intro f
  induction f with
  | zero => intro F p τ lim R wp cn h1; omega
  | succ f ih =>
    intro F p τ lim R wp cn h1 h2 h3 hv hk h
    obtain ⟨F, rfl⟩ : ∃ F', F = F' + 1 := ⟨F - 1, by omega⟩
    have er : rd t n (f + 1) p lim R wp cn = if p = n then ((0, p), lim, R, wp, cn) else if (sF t n R p).1 = 0 then rd t n f (sF t n R p).2 (sLim t n p lim) (sR' t n p R) (sWp t n p R wp) (sCn t n p R cn) else (sF t n R p, lim, R, wp, cn) := rfl
    rw [er]
    have e69 : f_X12_rules_69 (F + 1) τ = f_X12_rules_69_b (f_X12_rules_69 F) τ := rfl
    rw [e69]
    unfold f_X12_rules_69_b
    rw [h.2.2, if_pos rfl, h.2.1.2.1]
    have kl := (mK_inj (Kt_le (t := t) (n := n) p)).2.2.2
    by_cases z : p = n
    · rw [if_pos z, if_pos (kl.mpr (by rw [z]; exact Kt_n))]
      exact ⟨τ, rfl, Fr.rf, fun _ => ⟨h.2.2, hk⟩, fun q => absurd rfl q⟩
    have hp : p < n := by omega
    have h4 : ¬ Kt t n p = 4 := fun w => by
      unfold Kt at w
      rw [if_neg z] at w
      repeat' split at w
      all_goals omega
    rw [if_neg z, if_neg (fun q => h4 (kl.mp q))]
    obtain ⟨τ1, k1, k2, k3, k4⟩ := s_lineM hv hk hp h
    rw [k1, Option.bind_some]
    by_cases y0 : (sF t n R p).1 = 0
    · rw [if_pos y0]
      obtain ⟨o1, o2, o3⟩ := sF_ok hp hv y0
      obtain ⟨m1, m2⟩ := k3 y0
      obtain ⟨τ2, w1, w2, w3, w4⟩ := ih F (sF t n R p).2 τ1 _ _ _ _ (by omega) (by omega) o2 o3 m2 m1
      exact ⟨τ2, w1, k2.tr w2, w3, w4⟩
    · rw [if_neg y0]
      obtain ⟨F, rfl⟩ : ∃ F', F = F' + 1 := ⟨F - 1, by omega⟩
      have hf := k4 y0
      refine ⟨τ1, ?_, k2, fun q => absurd q y0, fun _ => hf⟩
      show f_X12_rules_69_b (f_X12_rules_69 F) τ1 = _
      unfold f_X12_rules_69_b
      have hlt : (sF t n R p).1 < 100 := by
        have a1 : ∀ k, (plim t n k p).1 < 100 := fun k => by
          have := pnum_lt (t := t) (n := n) (lo := loL k) (hi := hiL k) (p := nx t n p)
          unfold plim
          split
          · split
            · show (0 : Nat) < 100; omega
            · show (1 : Nat) < 100; omega
          · show pnum t n (loL k) (hiL k) (nx t n p) < 100; omega
        have a2 : ∀ p0 d j, (plp t n p0 d j).1 < 100 := by
          intro p0 d
          induction d with
          | zero => intro j; show (3 : Nat) < 100; omega
          | succ d ihd =>
            intro j
            rw [plp_s]
            split
            · split
              · exact ihd (j + 1)
              · split
                · show (0 : Nat) < 100; omega
                · show (1 : Nat) < 100; omega
            · exact ptf_lt
        have a3 : (prul t n R p).1 < 100 := by
          have := pnum_lt (t := t) (n := n) (lo := 1) (hi := 1000) (p := nx t n p)
          unfold prul
          split
          · show (3 : Nat) < 100; omega
          · split
            · split
              · exact a2 _ _ _
              · show (1 : Nat) < 100; omega
            · show pnum t n 1 1000 (nx t n p) < 100; omega
        unfold sF
        split
        · exact a1 _
        · split
          · exact a3
          · show (1 : Nat) < 100; omega
      rw [hf.1, if_neg (show ¬ nI (sF t n R p).1 = 0 from fun q => y0 (nI_inj (by omega) (by omega) (show nI _ = nI 0 from q)))]
end LM
