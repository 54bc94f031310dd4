/-! ===== ask ===== -/
def cTr (a k : Nat) : Prop := scr a k ∨ a = 32 ∨ a = 33 ∨ a = 83 ∨ (a = 57 ∧ k = 46)
theorem Inv.tr {σ σ' : aSt} (h : Inv σ) (f : Fr cTr σ σ') (hs : pTrace σ') : Inv σ' := by
  obtain ⟨h1, h2, h3, h4, h5, N, b, R, h6, h7, h8, h9⟩ := h
  obtain ⟨np, nc, nb⟩ := np_of (C := cTr) (fun a k q => by
    rcases q with q | q | q | q | ⟨q, q2⟩
    · exact Or.inl q
    · subst q; simp
    · subst q; simp
    · subst q; simp
    · subst q; subst q2; simp)
  refine ⟨h1.fr f (fun a k hs => by unfold cTr scr at hs; omega), h2.fr f (by unfold cTr scr; omega) (by unfold cTr scr; omega), h3.fr f (by unfold cTr scr; omega) (by unfold cTr scr; omega) (fun k => by unfold cTr scr; omega) (fun k => by unfold cTr scr; omega), h4.fr f (by unfold cTr scr; omega) (by unfold cTr scr; omega) (by unfold cTr scr; omega) (by unfold cTr scr; omega) (by unfold cTr scr; omega) (by unfold cTr scr; omega) (by unfold cTr scr; omega) (by unfold cTr scr; omega), hs, N, b, R, ?_, h7.fr f np, h8.fr f (fun a k q => nb b a k (by rcases h6 with ⟨z, -⟩ | ⟨z, -⟩ <;> omega) q), h9.fr f nc (fun k => by unfold cTr scr; omega) (fun k => by unfold cTr scr; omega)⟩
  rw [f.2.2 11 0 (by unfold cTr scr; omega), f.2.2 0 8 (by unfold cTr scr; omega)]
  exact h6
def bC (g : Nat → Nat → Int32) (n : Nat) (K sc : Int32) (τ : aSt) : Prop := gR τ 32 2 = some (84 + n) ∧ gI τ 32 3 = K ∧ gI τ 32 4 = sc ∧ (aSh (84 + n) = 4 ∧ 84 + n < gN τ) ∧ gI τ (84 + n) 2 = g 63 n ∧ gI τ (84 + n) 4 = g 65 n ∧ gI τ (84 + n) 5 = g 66 n
def tC (T : Nat → Int32) (t : Nat) (τ : aSt) : Prop := gI τ 32 1 = nI t ∧ ∀ i, i < t → gI τ 33 i = T i
def cT (a k : Nat) : Prop := a = 33 ∨ (a = 32 ∧ k = 1)
section AS
variable {g : Nat → Nat → Int32} {n : Nat} {K sc : Int32} {T : Nat → Int32}
theorem bC.fr {τ τ' : aSt} (h : bC g n K sc τ) (f : Fr cT τ τ') : bC g n K sc τ' := by
  unfold bC
  rw [f.2.2 32 2 (by unfold cT; omega), f.2.1 32 3 (by unfold cT; omega), f.2.1 32 4 (by unfold cT; omega), f.2.1 (84 + n) 2 (by unfold cT; omega), f.2.1 (84 + n) 4 (by unfold cT; omega), f.2.1 (84 + n) 5 (by unfold cT; omega), f.1]
  exact h
/-- an answer of a body -/
def bOk (g : Nat → Nat → Int32) (n : Nat) (K sc : Int32) (T : Nat → Int32) (t : Nat) (v : Int32) (τ : aSt) (r : Option (Int32 × aSt)) : Prop := ∃ τ', r = some (v, τ') ∧ bC g n K sc τ' ∧ tC T t τ' ∧ Fr cT τ τ'
theorem s_b0 {τ : aSt} (h : bC g n K sc τ) {t : Nat} (ht : tC T t τ) (h16 : t < 16) {c : Int32} (e : T t = c) {x : Nat} (hx : x ≤ 16) (self : Int32 → Int32 → aSt → Option (Int32 × aSt)) : ∃ τ', f_X0_body_b self c (nI x) τ = f_X0_body_44 self c (nI x) τ' ∧ bC g n K sc τ' ∧ tC T (t + 1) τ' ∧ Fr cT τ τ' := by
  have f : Fr cT τ (sI (sI τ 33 t c) 32 1 (nI (t + 1))) := Fr.sI (Fr.sI Fr.rf (Or.inl rfl)) (Or.inr ⟨rfl, rfl⟩)
  refine ⟨sI (sI τ 33 t c) 32 1 (nI (t + 1)), ?_, h.fr f, ⟨gI_same _ _ _ _, fun i hi => ?_⟩, f⟩
  · unfold f_X0_body_b
    rw [if_neg (show ¬ (16 : Int32) < nI x by rw [show (16 : Int32) = nI 16 from rfl, nI_ltI (by omega) (by omega)]; omega), h.1]
    simp only [oC_some]
    rw [ht.1, if_neg (show ¬ (16 : Int32) ≤ nI t by rw [show (16 : Int32) = nI 16 from rfl, nI_leI (by omega) (by omega)]; omega), if_pos (ix_in (by omega) (by omega)), ix_cl (by omega), gI_other (Or.inl (by omega)), ht.1, nI_1]
  · rw [gI_other (Or.inl (by omega))]
    by_cases z : i = t
    · subst z
      rw [gI_same, e]
    · rw [gI_other (Or.inr z)]
      exact ht.2 i (by omega)
theorem s_b10 {τ : aSt} (h : bC g n K sc τ) {t : Nat} (ht : tC T t τ) (h16 : t < 16) (e : T t = 10) {x d : Nat} (hx : x ≤ 16) : bOk g n K sc T (t + 1) (g 65 n) τ (f_X0_body (d + 1) 10 (nI x) τ) := by
  obtain ⟨τ1, a1, a2, a3, a4⟩ := s_b0 h ht h16 e hx (f_X0_body d)
  refine ⟨τ1, ?_, a2, a3, a4⟩
  show f_X0_body_b (f_X0_body d) 10 (nI x) τ = _
  rw [a1]
  unfold f_X0_body_44
  rw [if_pos rfl, a2.1]
  simp only [oC_some]
  rw [if_pos a2.2.2.2.1, a2.2.2.2.2.2.1]
theorem s_b20 {τ : aSt} (h : bC g n K sc τ) {t : Nat} (ht : tC T t τ) (h16 : t < 16) (e : T t = 20) {x d : Nat} (hx : x ≤ 16) : bOk g n K sc T (t + 1) (g 66 n) τ (f_X0_body (d + 1) 20 (nI x) τ) := by
  obtain ⟨τ1, a1, a2, a3, a4⟩ := s_b0 h ht h16 e hx (f_X0_body d)
  refine ⟨τ1, ?_, a2, a3, a4⟩
  show f_X0_body_b (f_X0_body d) 20 (nI x) τ = _
  rw [a1]
  unfold f_X0_body_44
  rw [if_neg (by decide), if_neg (by decide), if_neg (by decide), if_neg (by decide), if_neg (by decide), if_neg (by decide), if_neg (by decide), if_neg (by decide), if_neg (by decide), if_neg (by decide), if_pos rfl, a2.1]
  simp only [oC_some]
  rw [if_pos a2.2.2.2.1, a2.2.2.2.2.2.2]
theorem s_b11 {τ : aSt} (h : bC g n K sc τ) {t : Nat} (ht : tC T t τ) (h16 : t + 1 < 16) (e : T t = 11) (e1 : T (t + 1) = 10) {x d : Nat} (hx : x + 1 ≤ 16) : bOk g n K sc T (t + 2) (g 65 n - sc) τ (f_X0_body (d + 2) 11 (nI x) τ) := by
  obtain ⟨τ1, a1, a2, a3, a4⟩ := s_b0 h ht (by omega) e (by omega : x ≤ 16) (f_X0_body (d + 1))
  obtain ⟨τ2, b1, b2, b3, b4⟩ := s_b10 a2 a3 h16 e1 (d := d) hx
  refine ⟨τ2, ?_, b2, b3, a4.tr b4⟩
  show f_X0_body_b (f_X0_body (d + 1)) 11 (nI x) τ = _
  rw [a1]
  unfold f_X0_body_44
  rw [if_neg (by decide), if_pos rfl, nI_1, b1]
  simp only [Option.bind_some]
  rw [b2.2.2.1]
theorem s_b12 {τ : aSt} (h : bC g n K sc τ) {t : Nat} (ht : tC T t τ) (h16 : t + 2 < 16) (e : T t = 12) (e1 : T (t + 1) = 11) (e2 : T (t + 2) = 10) {x d : Nat} (hx : x + 2 ≤ 16) : bOk g n K sc T (t + 3) ((g 65 n - sc) / 2) τ (f_X0_body (d + 3) 12 (nI x) τ) := by
  obtain ⟨τ1, a1, a2, a3, a4⟩ := s_b0 h ht (by omega) e (by omega : x ≤ 16) (f_X0_body (d + 2))
  obtain ⟨τ2, b1, b2, b3, b4⟩ := s_b11 a2 a3 h16 e1 e2 (d := d) hx
  refine ⟨τ2, ?_, b2, b3, a4.tr b4⟩
  show f_X0_body_b (f_X0_body (d + 2)) 12 (nI x) τ = _
  rw [a1]
  unfold f_X0_body_44
  rw [if_neg (by decide), if_neg (by decide), if_pos rfl, nI_1, b1]
  rfl
theorem s_b23 {τ : aSt} (h : bC g n K sc τ) {t : Nat} (ht : tC T t τ) (h16 : t + 1 < 16) (e : T t = 23) (e1 : T (t + 1) = 20) {x d : Nat} (hx : x + 1 ≤ 16) : bOk g n K sc T (t + 2) (g 66 n + g 63 n) τ (f_X0_body (d + 2) 23 (nI x) τ) := by
  obtain ⟨τ1, a1, a2, a3, a4⟩ := s_b0 h ht (by omega) e (by omega : x ≤ 16) (f_X0_body (d + 1))
  obtain ⟨τ2, b1, b2, b3, b4⟩ := s_b20 a2 a3 h16 e1 (d := d) hx
  refine ⟨τ2, ?_, b2, b3, a4.tr b4⟩
  show f_X0_body_b (f_X0_body (d + 1)) 23 (nI x) τ = _
  rw [a1]
  unfold f_X0_body_44
  rw [if_neg (by decide), if_neg (by decide), if_neg (by decide), if_neg (by decide), if_neg (by decide), if_neg (by decide), if_neg (by decide), if_neg (by decide), if_neg (by decide), if_neg (by decide), if_neg (by decide), if_neg (by decide), if_neg (by decide), if_pos rfl, nI_1, b1]
  simp only [Option.bind_some]
  rw [b2.1]
  simp only [oC_some]
  rw [if_pos b2.2.2.2.1, b2.2.2.2.2.1]
theorem s_b13 (hK : K = 3) {τ : aSt} (h : bC g n K sc τ) {t : Nat} (ht : tC T t τ) (h16 : t + 3 < 16) (e : T t = 13) (e1 : T (t + 1) = 10) (e2 : T (t + 2) = 23) (e3 : T (t + 3) = 20) {x d : Nat} (hx : x + 2 ≤ 16) : bOk g n K sc T (t + 4) (g 65 n + (g 66 n + g 63 n)) τ (f_X0_body (d + 3) 13 (nI x) τ) := by
  obtain ⟨τ1, a1, a2, a3, a4⟩ := s_b0 h ht (by omega) e (by omega : x ≤ 16) (f_X0_body (d + 2))
  obtain ⟨τ2, b1, b2, b3, b4⟩ := s_b10 a2 a3 (by omega) e1 (d := d + 1) (x := x + 1) (by omega)
  obtain ⟨τ3, c1, c2, c3, c4⟩ := s_b23 b2 b3 (by omega) e2 e3 (d := d) (x := x + 1) (by omega)
  refine ⟨τ3, ?_, c2, c3, a4.tr (b4.tr c4)⟩
  show f_X0_body_b (f_X0_body (d + 2)) 13 (nI x) τ = _
  rw [a1]
  unfold f_X0_body_44
  rw [if_neg (by decide), if_neg (by decide), if_neg (by decide), if_pos rfl, nI_1, b1]
  simp only [Option.bind_some]
  rw [b2.2.1, hK, show (20 : Int32) + 3 = 23 from rfl, c1]
  rfl
theorem s_b21a (hK : K = 1) {τ : aSt} (h : bC g n K sc τ) {t : Nat} (ht : tC T t τ) (h16 : t + 3 < 16) (e : T t = 21) (e1 : T (t + 1) = 20) (e2 : T (t + 2) = 11) (e3 : T (t + 3) = 10) {x d : Nat} (hx : x + 2 ≤ 16) : bOk g n K sc T (t + 4) (g 66 n + (g 65 n - sc)) τ (f_X0_body (d + 3) 21 (nI x) τ) := by
  obtain ⟨τ1, a1, a2, a3, a4⟩ := s_b0 h ht (by omega) e (by omega : x ≤ 16) (f_X0_body (d + 2))
  obtain ⟨τ2, b1, b2, b3, b4⟩ := s_b20 a2 a3 (by omega) e1 (d := d + 1) (x := x + 1) (by omega)
  obtain ⟨τ3, c1, c2, c3, c4⟩ := s_b11 b2 b3 (by omega) e2 e3 (d := d) (x := x + 1) (by omega)
  refine ⟨τ3, ?_, c2, c3, a4.tr (b4.tr c4)⟩
  show f_X0_body_b (f_X0_body (d + 2)) 21 (nI x) τ = _
  rw [a1]
  unfold f_X0_body_44
  rw [if_neg (by decide), if_neg (by decide), if_neg (by decide), if_neg (by decide), if_neg (by decide), if_neg (by decide), if_neg (by decide), if_neg (by decide), if_neg (by decide), if_neg (by decide), if_neg (by decide), if_pos rfl, nI_1, b1]
  simp only [Option.bind_some]
  rw [b2.2.1, hK, show (10 : Int32) + 1 = 11 from rfl, c1]
  rfl
theorem s_b21b (hK : K = 2) {τ : aSt} (h : bC g n K sc τ) {t : Nat} (ht : tC T t τ) (h16 : t + 4 < 16) (e : T t = 21) (e1 : T (t + 1) = 20) (e2 : T (t + 2) = 12) (e3 : T (t + 3) = 11) (e4 : T (t + 4) = 10) {x d : Nat} (hx : x + 3 ≤ 16) : bOk g n K sc T (t + 5) (g 66 n + (g 65 n - sc) / 2) τ (f_X0_body (d + 4) 21 (nI x) τ) := by
  obtain ⟨τ1, a1, a2, a3, a4⟩ := s_b0 h ht (by omega) e (by omega : x ≤ 16) (f_X0_body (d + 3))
  obtain ⟨τ2, b1, b2, b3, b4⟩ := s_b20 a2 a3 (by omega) e1 (d := d + 2) (x := x + 1) (by omega)
  obtain ⟨τ3, c1, c2, c3, c4⟩ := s_b12 b2 b3 (by omega) e2 e3 e4 (d := d) (x := x + 1) (by omega)
  refine ⟨τ3, ?_, c2, c3, a4.tr (b4.tr c4)⟩
  show f_X0_body_b (f_X0_body (d + 3)) 21 (nI x) τ = _
  rw [a1]
  unfold f_X0_body_44
  rw [if_neg (by decide), if_neg (by decide), if_neg (by decide), if_neg (by decide), if_neg (by decide), if_neg (by decide), if_neg (by decide), if_neg (by decide), if_neg (by decide), if_neg (by decide), if_neg (by decide), if_pos rfl, nI_1, b1]
  simp only [Option.bind_some]
  rw [b2.2.1, hK, show (10 : Int32) + 2 = 12 from rfl, c1]
  rfl
theorem s_b22 (hK : K = 2) {τ : aSt} (h : bC g n K sc τ) {t : Nat} (ht : tC T t τ) (h16 : t + 5 < 16) (e : T t = 22) (e1 : T (t + 1) = 21) (e2 : T (t + 2) = 20) (e3 : T (t + 3) = 12) (e4 : T (t + 4) = 11) (e5 : T (t + 5) = 10) {x d : Nat} (hx : x + 4 ≤ 16) : bOk g n K sc T (t + 6) (g 66 n + (g 65 n - sc) / 2 + 100) τ (f_X0_body (d + 5) 22 (nI x) τ) := by
  obtain ⟨τ1, a1, a2, a3, a4⟩ := s_b0 h ht (by omega) e (by omega : x ≤ 16) (f_X0_body (d + 4))
  obtain ⟨τ2, b1, b2, b3, b4⟩ := s_b21b hK a2 a3 (by omega) e1 e2 e3 e4 e5 (d := d) (x := x + 1) (by omega)
  refine ⟨τ2, ?_, b2, b3, a4.tr b4⟩
  show f_X0_body_b (f_X0_body (d + 4)) 22 (nI x) τ = _
  rw [a1]
  unfold f_X0_body_44
  rw [if_neg (by decide), if_neg (by decide), if_neg (by decide), if_neg (by decide), if_neg (by decide), if_neg (by decide), if_neg (by decide), if_neg (by decide), if_neg (by decide), if_neg (by decide), if_neg (by decide), if_neg (by decide), if_pos rfl, nI_1, b1]
  rfl
end AS
/-- what the trace says, and how many -/
def xTr (K p : Int32) : List Int32 := if p = 0 then (if K = 0 then [10] else if K = 1 then [11, 10] else if K = 2 then [12, 11, 10] else [13, 10, 23, 20]) else (if K = 0 then [20] else if K = 1 then [21, 20, 11, 10] else if K = 2 then [22, 21, 20, 12, 11, 10] else [23, 20])
def xAsk (g : Nat → Nat → Int32) (n : Nat) (K sc p : Int32) : Int32 := if p = 0 then (if K = 0 then g 65 n else if K = 1 then g 65 n - sc else if K = 2 then (g 65 n - sc) / 2 else g 65 n + (g 66 n + g 63 n)) else (if K = 0 then g 66 n else if K = 1 then g 66 n + (g 65 n - sc) else if K = 2 then g 66 n + (g 65 n - sc) / 2 + 100 else g 66 n + g 63 n)
section AS2
variable {g : Nat → Nat → Int32} {n : Nat} {K sc : Int32}
theorem s_answer {p : Int32} (hp : p = 0 ∨ p = 1) (hK : K = 0 ∨ K = 1 ∨ K = 2 ∨ K = 3) {τ : aSt} (hok : aSh (84 + n) = 4 ∧ 84 + n < gN τ) (h2 : gI τ (84 + n) 2 = g 63 n) (h4 : gI τ (84 + n) 4 = g 65 n) (h5 : gI τ (84 + n) 5 = g 66 n) : ∃ τ', f_X0_answer p (84 + n) K sc τ = some (xAsk g n K sc p, τ') ∧ tC (fun i => (xTr K p).getD i 0) (xTr K p).length τ' ∧ Fr (fun a _ => a = 32 ∨ a = 33) τ τ' := by
  unfold f_X0_answer f_X0_answer_15 f_X0_answer_33
  generalize hτ : sI (sI (sR (sI τ 32 1 0) 32 2 (some (84 + n))) 32 3 K) 32 4 sc = τ1
  have hb : bC g n K sc τ1 := by
    rw [← hτ]
    refine ⟨?_, ?_, ?_, hok, ?_, ?_, ?_⟩
    · show gR (sR (sI τ 32 1 0) 32 2 (some (84 + n))) 32 2 = _
      rw [gRs]
    · rw [gI_other (Or.inr (by omega)), gI_same]
    · rw [gI_same]
    · rw [gI_other (Or.inl (by omega)), gI_other (Or.inl (by omega))]
      show gI (sI τ 32 1 0) (84 + n) 2 = _
      rw [gI_other (Or.inl (by omega))]
      exact h2
    · rw [gI_other (Or.inl (by omega)), gI_other (Or.inl (by omega))]
      show gI (sI τ 32 1 0) (84 + n) 4 = _
      rw [gI_other (Or.inl (by omega))]
      exact h4
    · rw [gI_other (Or.inl (by omega)), gI_other (Or.inl (by omega))]
      show gI (sI τ 32 1 0) (84 + n) 5 = _
      rw [gI_other (Or.inl (by omega))]
      exact h5
  have ht : ∀ T, tC T 0 τ1 := fun T => by
    refine ⟨?_, fun i hi => absurd hi (Nat.not_lt_zero _)⟩
    rw [← hτ, gI_other (Or.inr (by omega)), gI_other (Or.inr (by omega))]
    show gI (sI τ 32 1 0) 32 1 = _
    rw [gI_same]
    rfl
  have hf : Fr (fun a _ => a = 32 ∨ a = 33) τ τ1 := by
    rw [← hτ]
    exact Fr.sI (Fr.sI (Fr.sR (Fr.sI Fr.rf (Or.inl rfl)) (Or.inl rfl)) (Or.inl rfl)) (Or.inl rfl)
  have fin : ∀ (T : Nat → Int32) (t : Nat) (v : Int32) (r : Option (Int32 × aSt)), bOk g n K sc T t v τ1 r → ∃ τ', r.bind (fun q1 => some (q1.1, q1.2)) = some (v, τ') ∧ tC T t τ' ∧ Fr (fun a _ => a = 32 ∨ a = 33) τ τ' := by
    rintro T t v r ⟨τ2, q1, q2, q3, q4⟩
    refine ⟨τ2, by rw [q1]; rfl, q3, hf.tr (q4.mono (fun a k q => by unfold cT at q; omega))⟩
  have e3 : gI τ1 32 3 = K := hb.2.1
  rw [e3]
  rcases hp with rfl | rfl
  · rw [if_pos rfl]
    rcases hK with rfl | rfl | rfl | rfl
    · exact fin _ _ _ _ (s_b10 hb (ht _) (by omega) rfl (d := 7) (x := 0) (by omega))
    · exact fin _ _ _ _ (s_b11 hb (ht _) (by omega) rfl rfl (d := 6) (x := 0) (by omega))
    · exact fin _ _ _ _ (s_b12 hb (ht _) (by omega) rfl rfl rfl (d := 5) (x := 0) (by omega))
    · exact fin _ _ _ _ (s_b13 rfl hb (ht _) (by omega) rfl rfl rfl rfl (d := 5) (x := 0) (by omega))
  · rw [if_neg (by decide)]
    rcases hK with rfl | rfl | rfl | rfl
    · exact fin _ _ _ _ (s_b20 hb (ht _) (by omega) rfl (d := 7) (x := 0) (by omega))
    · exact fin _ _ _ _ (s_b21a rfl hb (ht _) (by omega) rfl rfl rfl rfl (d := 5) (x := 0) (by omega))
    · exact fin _ _ _ _ (s_b22 rfl hb (ht _) (by omega) rfl rfl rfl rfl rfl rfl (d := 3) (x := 0) (by omega))
    · exact fin _ _ _ _ (s_b23 hb (ht _) (by omega) rfl rfl (d := 6) (x := 0) (by omega))
end AS2
