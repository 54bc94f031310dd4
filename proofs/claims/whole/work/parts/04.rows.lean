/-! ===== rows that read and write the heap, returns, calls ===== -/
/-- a link to a field: kind and number of the field, final, its type -/
def aFl (own : String) (ix c k : Nat) (fin : Bool) (ty : FieldType) : Prop := ∃ (C : String) (T : u_T) (N : Nat) (tys : Nat → FieldType), vwCl[c]? = some (C, T, N) ∧ (∀ w ∈ u_ws C T N, w ∈ wsL_law) ∧ (∀ j, j < N → parseFieldDescriptor (T j).2.2.1 = some (tys j)) ∧ (∀ a, a < N → ∀ b, b < N → a ≠ b → (T a).2.1 ≠ (T b).2.1) ∧ k < N ∧ c < 13 ∧ aNf c = N ∧ Cond.fieldLink own ix (T k).1 (T k).2.1 (T k).2.2.1 ∈ wsL_law ∧ (T k).2.2.2 = fin ∧ tys k = ty ∧ (T k).1 = C
theorem aFv_i {md : Bool} {σ : aSt} {c a k : Nat} (h : aFt c k = 0) (Z : aZ) : aFv md Z σ c a k = aTr Z (.int (gI σ a k)) := by
  simp [aFv, h, aTr]
theorem aFv_l {md : Bool} {σ : aSt} {c a k : Nat} (h : aFt c k = 1) (Z : aZ) : aFv md Z σ c a k = aTr Z (.long (gL σ a k)) := by
  simp [aFv, h, aTr]
theorem aFv_k {σ : aSt} {c a k : Nat} (h : aFt c k = 3) (Z : aZ) : aFv true Z σ c a k = aTr Z (va_rf (some (aKr c k a))) := by
  simp [aFv, h, aTr, va_rf]
theorem aFv_q {md : Bool} {σ : aSt} {c a k : Nat} (h : aFt c k = 2 ∨ aFt c k = 3 ∧ md = false) (Z : aZ) : aFv md Z σ c a k = aTr Z (va_rf (gR σ a k)) := by
  rcases h with h | ⟨h, rfl⟩ <;> simp [aFv, h, aTr_rf]
theorem aCell_put {md : Bool} {Z : aZ} {σ σ1 : aSt} {a c k : Nat} {v : Value} (hs : aSh a = c) (hc : c < 13) (hg : aFv md Z σ1 c a k = v) (hne : ∀ j, j ≠ k → aFv md Z σ1 c a j = aFv md Z σ c a j) : aCell md Z σ1 a = .inr (c, ((List.range (aNf c)).map (aFv md Z σ c a)).set k v) := by
  rw [aCell_obj hs hc, aFs_set hg hne]
theorem aPut_i {md : Bool} {σ : aSt} {a c k : Nat} {v : Int32} (hs : aSh a = c) (hc : c < 13) (hf : aFt c k = 0) (Z : aZ) : aCell md Z (sI σ a k v) a = .inr (c, ((List.range (aNf c)).map (aFv md Z σ c a)).set k (aTr Z (.int v))) := by
  refine aCell_put hs hc ?_ ?_
  · rw [aFv_i hf]; simp [gI_sI]
  · intro j hj
    simp only [aFv, gI_sI, gL_sI, gR_sI]
    simp [hj]
theorem aPut_l {md : Bool} {σ : aSt} {a c k : Nat} {v : Int64} (hs : aSh a = c) (hc : c < 13) (hf : aFt c k = 1) (Z : aZ) : aCell md Z (sL σ a k v) a = .inr (c, ((List.range (aNf c)).map (aFv md Z σ c a)).set k (aTr Z (.long v))) := by
  refine aCell_put hs hc ?_ ?_
  · rw [aFv_l hf]; simp [gL_sL]
  · intro j hj
    simp only [aFv, gI_sL, gL_sL, gR_sL]
    simp [hj]
theorem aPut_q {md : Bool} {σ : aSt} {a c k : Nat} {v : Option Nat} (hs : aSh a = c) (hc : c < 13) (hf : aFt c k = 2 ∨ aFt c k = 3 ∧ md = false) (Z : aZ) : aCell md Z (sR σ a k v) a = .inr (c, ((List.range (aNf c)).map (aFv md Z σ c a)).set k (aTr Z (va_rf v))) := by
  refine aCell_put hs hc ?_ ?_
  · rw [aFv_q hf]; simp [gR_sR]
  · intro j hj
    simp only [aFv, gI_sR, gL_sR, gR_sR]
    simp [hj]
theorem aOff_i {md : Bool} {Z : aZ} {σ : aSt} {a k : Nat} {v : Int32} {j : Nat} (h : j ≠ a) : aCell md Z (sI σ a k v) j = aCell md Z σ j := aCell_ext (by rw [gI_sIr, if_neg h]) rfl rfl
theorem aOff_l {md : Bool} {Z : aZ} {σ : aSt} {a k : Nat} {v : Int64} {j : Nat} (h : j ≠ a) : aCell md Z (sL σ a k v) j = aCell md Z σ j := aCell_ext rfl (by rw [gL_sLr, if_neg h]) rfl
theorem aOff_q {md : Bool} {Z : aZ} {σ : aSt} {a k : Nat} {v : Option Nat} {j : Nat} (h : j ≠ a) : aCell md Z (sR σ a k v) j = aCell md Z σ j := aCell_ext rfl rfl (by rw [gR_sRr, if_neg h])
theorem aOff_c {md : Bool} {Z : aZ} {σ : aSt} {a sp b dp n : Nat} {j : Nat} (h : j ≠ b) : aCell md Z (sC σ a sp b dp n) j = aCell md Z σ j := aCell_ext (by rw [gI_sC, if_neg h]) rfl rfl
section AWH
variable {p : Program} {l : Launch} {e : Env} {s : State} {m : MethodId} {args : Array Value} {below : List Frame} {meth : Method} {c : Code} {H : Heap} {locs : List Loc} {cells slots : Nat} {Q : State → Prop} {R : Room} {ls : Array Slot} {rest : List Value} {Z : aZ}
/-- a field is written; the heap's size stays -/
theorem kw_put {md : Bool} {M : aM} {pc : Nat} {ws : va_W} {a ci k ix q0 : Nat} {fin : Bool} {ty : FieldType} {fs : List Value} {v : Value} (X : aF md M p s m args meth c Z) (hP : va_P Z.2.1 vwCl ws H) (hD : va_D (aA Z) ws) (hS0 : va_S (aA Z) s.heap H locs) (he : ws[q0]? = some (a, .inr (ci, fs))) (hf : aFl M.1.cls ix ci k fin ty) (hok : fin = false ∨ M.1.name = "<init>" ∧ (vwCl[ci]?.map (·.1)) = some M.1.cls) (hn : narrow ty v = v) (hfit : fits ty v = true) (hl : k < fs.length) (hdg : decode M.2.1 pc = .ok (.putfield ix, 3))
    (kk : ∀ (H1 : Heap) (locs1 : List Loc), H1.size = H.size → va_P Z.2.1 vwCl (ws.set q0 (a, .inr (ci, fs.set k v))) H1 → va_D (aA Z) (ws.set q0 (a, .inr (ci, fs.set k v))) → va_S (aA Z) s.heap H1 locs1 → W p l e R s m args below meth c H1 locs1 cells slots Q (F0 m (pc + 3) ls rest)) : W p l e R s m args below meth c H locs cells slots Q (F0 m pc ls (v :: .ref a :: rest)) := by
  obtain ⟨hx, hb, -, -, hown, hts, -, hnm0, -, hK, -, -⟩ := X
  obtain ⟨C, T, N, tys, hc, hin, hty, hnm, hk, -, -, hlw, hfin, rfl, hTC⟩ := hf
  have hap := va_apart (own := M.1.cls) hts hin tys hty hnm hK hc
  obtain ⟨r, h1, cell, q1, q2, q3, q4⟩ := hP q0 _ he
  have hr : r = (C, T, N) := Option.some.inj (h1.symm.trans hc)
  subst hr
  obtain ⟨hS, hfc, kC, hkC, hkind⟩ := hK.1 ci _ hc
  obtain ⟨cf, kf, fi, f, hi, hsl⟩ := hS k hk
  have hst := (u_facts hfc hkC (u_lays hts hin hk) hi).1
  have hlay := hts _ (hin _ (u_in_lay hk))
  unfold u_lay at hlay
  cases fin with
  | false =>
    rw [if_neg (by rw [hfin]; decide)] at hlay
    have h6 := u_store hfc hkC hkind hlay hi (hty k hk) hn hfit
    refine W.putK hx hb (f := f) ⟨hown, hts _ hlw, ⟨_, _, _, hi⟩, hst⟩ (by rw [q2]; exact h6) q1 q3 (by rw [hsl]; exact k2_hasslot (q4 k hk)) rfl rfl hdg fun H' e1 e2 e3 => ?_
    rw [hsl] at e1 ⊢
    exact kk H' _ e2 (hP.set hD he ⟨_, hc, t_OB.to (V := updV (vp_V fs) k v) ⟨_, e1, q2, q3, t_set q4 hap hk v⟩ (fun j _ => vp_updV_set hl v j)⟩ e3) (hD.set he) (hS0.put e2 e3 (hD.2 q0 _ he))
  | true =>
    have hok2 : M.1.name = "<init>" ∧ (vwCl[ci]?.map (·.1)) = some M.1.cls := hok.resolve_left (by decide)
    have hC : C = M.1.cls := by
      have h9 := hok2.2
      rw [hc] at h9
      exact Option.some.inj h9
    rw [if_pos hfin] at hlay
    have hcf : m.cls = cf := by
      obtain ⟨_, _, c', _, _, _, -, -, hf', -, -, -, hown2, -⟩ := Cond.laysFinal_spec hlay
      have e1 : c' = cf := by have := hi.symm.trans hf'; simp at this; exact this.1.symm
      rw [hTC, hC] at hown2
      rw [← e1]; exact Option.some.inj (hown.symm.trans hown2)
    have h6 := u_fits hfc hkC hkind (u_lays hts hin hk) hi (hty k hk) hn hfit
    refine W.putFinK hx hb hown (hts _ hlw) hi hst hcf (hnm0.trans hok2.1) (by rw [q2]; exact h6) q1 q3 (by rw [hsl]; exact k2_hasslot (q4 k hk)) rfl rfl hdg fun H' e1 e2 e3 => ?_
    rw [hsl] at e1 ⊢
    exact kk H' _ e2 (hP.set hD he ⟨_, hc, t_OB.to (V := updV (vp_V fs) k v) ⟨_, e1, q2, q3, t_set q4 hap hk v⟩ (fun j _ => vp_updV_set hl v j)⟩ e3) (hD.set he) (hS0.put e2 e3 (hD.2 q0 _ he))
end AWH
section AWR2
variable {md : Bool} {M : aM} {pc : Nat} {lv lv' : List (Nat × Value)} {st : List Value} {σ σ' σ1 : aSt} {cu su : Nat} {r : Option Value}
theorem w_get {a c k ix : Nat} {fin : Bool} {ty : FieldType} {v : Value} (hd : decode M.2.1 pc = .ok (.getfield ix, 3)) (hf : aFl M.1.cls ix c k fin ty) (hr : okO md σ a c) (hv : ∀ Z, aFv md Z σ c a k = aTr Z v) (kk : AW md M (pc + 3) lv (v :: st) σ cu su r σ') : AW md M pc lv (va_rf (some a) :: st) σ cu su r σ' := by
  intro p l e s m args below meth c0 Z H locs ls X hl hh
  have hlt := hr.lt hh.2.1
  have hk0 := kk p l e s m args below meth c0 Z H locs ls X hl hh
  obtain ⟨hx, hb, -, -, hown, hts, -, -, -, hK, -, -⟩ := X
  obtain ⟨C, T, N, tys, hc, hin, hty, hnm, hk, hc13, hN, hlw, hfin, rfl, hTC⟩ := hf
  have he : (aWs md Z σ)[a]? = some (Z.1 + a, .inr (c, (List.range (aNf c)).map (aFv md Z σ c a))) := by rw [aWs_get hlt, aCell_obj hr.1 hc13]
  refine va_get (D := Z.2.1) (ci := c) (v := aTr Z v) (C := C) (T := T) (N := N) hx hb hts hin hown hK hh.2.2.1 a he hc k hk (hts _ hlw) (fun _ h9 => h9) ?_ hd hk0
  rw [aFs_get (by rw [hN]; exact hk), hv Z]
theorem w_put {a c k ix : Nat} {fin : Bool} {ty : FieldType} {v : Value} (hd : decode M.2.1 pc = .ok (.putfield ix, 3)) (hf : aFl M.1.cls ix c k fin ty) (hok : fin = false ∨ M.1.name = "<init>" ∧ (vwCl[c]?.map (·.1)) = some M.1.cls) (hr : okO md σ a c) (hn : ∀ Z, narrow ty (aTr Z v) = aTr Z v) (hfit : ∀ Z, fits ty (aTr Z v) = true) (hgn : gN σ1 = gN σ) (hc1 : ∀ Z, aCell md Z σ1 a = .inr (c, ((List.range (aNf c)).map (aFv md Z σ c a)).set k (aTr Z v))) (hc2 : ∀ Z j, j ≠ a → aCell md Z σ1 j = aCell md Z σ j) (kk : AW md M (pc + 3) lv st σ1 cu su r σ') : AW md M pc lv (v :: va_rf (some a) :: st) σ cu su r σ' := by
  intro p l e s m args below meth c0 Z H locs ls X hl hh
  have hlt := hr.lt hh.2.1
  obtain ⟨z1, z2, z3, z4, z5⟩ := hh
  have hf' := hf
  obtain ⟨C, T, N, tys, hc, hin, hty, hnm, hk, hc13, hN, hlw, hfin, hty2, hTC⟩ := hf'
  have he : (aWs md Z σ)[a]? = some (Z.1 + a, .inr (c, (List.range (aNf c)).map (aFv md Z σ c a))) := by rw [aWs_get hlt, aCell_obj hr.1 hc13]
  refine kw_put (v := aTr Z v) X z3 z4 z5 he hf hok (hn Z) (hfit Z) (by rw [aFs_len, hN]; exact hk) hd (fun H1 locs1 e1 hP hD hS => ?_)
  have hw := aWs_set (md := md) (Z := Z) (σ := σ) (σ' := σ1) hlt hgn (hc1 Z) (hc2 Z)
  rw [hw] at hP hD
  exact kk p l e s m args below meth c0 Z H1 locs1 ls X hl ⟨by rw [e1, z1, hgn], fun h => by rw [hgn]; exact z2 h, hP, hD, hS⟩
theorem w_putI {a c k ix : Nat} {fin : Bool} {v : Int32} (hd : decode M.2.1 pc = .ok (.putfield ix, 3)) (hf : aFl M.1.cls ix c k fin .int) (hok : fin = false ∨ M.1.name = "<init>" ∧ (vwCl[c]?.map (·.1)) = some M.1.cls) (hft : aFt c k = 0) (hr : okO md σ a c) (kk : AW md M (pc + 3) lv st (sI σ a k v) cu su r σ') : AW md M pc lv (.int v :: va_rf (some a) :: st) σ cu su r σ' :=
  w_put (σ1 := sI σ a k v) hd hf hok hr (fun _ => rfl) (fun _ => rfl) rfl (aPut_i hr.1 (by obtain ⟨_, _, _, _, _, _, _, _, _, h, _⟩ := hf; exact h) hft) (fun _ _ h => aOff_i h) kk
theorem w_putZ {a c k ix : Nat} {fin : Bool} {v : Int32} (hd : decode M.2.1 pc = .ok (.putfield ix, 3)) (hf : aFl M.1.cls ix c k fin .boolean) (hok : fin = false ∨ M.1.name = "<init>" ∧ (vwCl[c]?.map (·.1)) = some M.1.cls) (hft : aFt c k = 0) (hr : okO md σ a c) (hz : narrow .boolean (.int v) = .int v) (hz2 : fits .boolean (.int v) = true) (kk : AW md M (pc + 3) lv st (sI σ a k v) cu su r σ') : AW md M pc lv (.int v :: va_rf (some a) :: st) σ cu su r σ' :=
  w_put (σ1 := sI σ a k v) hd hf hok hr (fun _ => hz) (fun _ => hz2) rfl (aPut_i hr.1 (by obtain ⟨_, _, _, _, _, _, _, _, _, h, _⟩ := hf; exact h) hft) (fun _ _ h => aOff_i h) kk
theorem w_putL {a c k ix : Nat} {fin : Bool} {v : Int64} (hd : decode M.2.1 pc = .ok (.putfield ix, 3)) (hf : aFl M.1.cls ix c k fin .long) (hok : fin = false ∨ M.1.name = "<init>" ∧ (vwCl[c]?.map (·.1)) = some M.1.cls) (hft : aFt c k = 1) (hr : okO md σ a c) (kk : AW md M (pc + 3) lv st (sL σ a k v) cu su r σ') : AW md M pc lv (.long v :: va_rf (some a) :: st) σ cu su r σ' :=
  w_put (σ1 := sL σ a k v) hd hf hok hr (fun _ => rfl) (fun _ => rfl) rfl (aPut_l hr.1 (by obtain ⟨_, _, _, _, _, _, _, _, _, h, _⟩ := hf; exact h) hft) (fun _ _ h => aOff_l h) kk
theorem aRf_or (Z : aZ) (x : Option Nat) : aTr Z (va_rf x) = .null ∨ ∃ q, aTr Z (va_rf x) = .ref q := by
  cases x with
  | none => exact Or.inl rfl
  | some a => exact Or.inr ⟨_, rfl⟩
def aIsR (ty : FieldType) : Prop := (∃ n, ty = .object n) ∨ ∃ t, ty = .array t
theorem aRf_n {ty : FieldType} (hty : aIsR ty) (Z : aZ) (x : Option Nat) : narrow ty (aTr Z (va_rf x)) = aTr Z (va_rf x) := by
  rcases hty with ⟨n, rfl⟩ | ⟨t, rfl⟩ <;> cases x <;> rfl
theorem aRf_f {ty : FieldType} (hty : aIsR ty) (Z : aZ) (x : Option Nat) : fits ty (aTr Z (va_rf x)) = true := by
  rcases hty with ⟨n, rfl⟩ | ⟨t, rfl⟩ <;> cases x <;> rfl
theorem w_putQ {a c k ix : Nat} {fin : Bool} {ty : FieldType} {v : Option Nat} (hd : decode M.2.1 pc = .ok (.putfield ix, 3)) (hf : aFl M.1.cls ix c k fin ty) (hok : fin = false ∨ M.1.name = "<init>" ∧ (vwCl[c]?.map (·.1)) = some M.1.cls) (hft : aFt c k = 2 ∨ aFt c k = 3 ∧ md = false) (hr : okO md σ a c) (hty : aIsR ty) (kk : AW md M (pc + 3) lv st (sR σ a k v) cu su r σ') : AW md M pc lv (va_rf v :: va_rf (some a) :: st) σ cu su r σ' :=
  w_put (σ1 := sR σ a k v) hd hf hok hr (fun Z => aRf_n hty Z v) (fun Z => aRf_f hty Z v) rfl (aPut_q hr.1 (by obtain ⟨_, _, _, _, _, _, _, _, _, h, _⟩ := hf; exact h) hft) (fun _ _ h => aOff_q h) kk
/-! arrays -/
theorem w_iaload {a : Nat} {i : Int32} (hd : decode M.2.1 pc = .ok (.iaload, 1)) (hr : okO md σ a 13) (hi : inB i (aLn a)) (kk : AW md M (pc + 1) lv (.int (gI σ a i.toNatClampNeg) :: st) σ cu su r σ') : AW md M pc lv (.int i :: va_rf (some a) :: st) σ cu su r σ' := by
  intro p l e s m args below meth c0 Z H locs ls X hl hh
  have he : (aWs md Z σ)[a]? = some (Z.1 + a, .inl (Z.2.2.1.1, aLn a, .inl (gI σ a))) := by rw [aWs_get (hr.lt hh.2.1), aCell_i hr.1]
  exact va_iald X.1 X.2.1 X.2.2.2.2.2.2.2.2.2.1 hh.2.2.1 a 0 he rfl hi hd (kk p l e s m args below meth c0 Z H locs ls X hl hh)
theorem w_baload {a : Nat} {i : Int32} (hd : decode M.2.1 pc = .ok (.baload, 1)) (hr : okO md σ a 14) (hi : inB i (aLn a)) (kk : AW md M (pc + 1) lv (.int (gI σ a i.toNatClampNeg) :: st) σ cu su r σ') : AW md M pc lv (.int i :: va_rf (some a) :: st) σ cu su r σ' := by
  intro p l e s m args below meth c0 Z H locs ls X hl hh
  have he : (aWs md Z σ)[a]? = some (Z.1 + a, .inl (Z.2.2.1.2.1, aLn a, .inl (gI σ a))) := by rw [aWs_get (hr.lt hh.2.1), aCell_b hr.1]
  exact va_bald X.1 X.2.1 X.2.2.2.2.2.2.2.2.2.1 hh.2.2.1 a 1 he rfl hi hd (kk p l e s m args below meth c0 Z H locs ls X hl hh)
theorem w_laload {a : Nat} {i : Int32} (hd : decode M.2.1 pc = .ok (.laload, 1)) (hr : okO md σ a 15) (hi : inB i (aLn a)) (kk : AW md M (pc + 1) lv (.long (gL σ a i.toNatClampNeg) :: st) σ cu su r σ') : AW md M pc lv (.int i :: va_rf (some a) :: st) σ cu su r σ' := by
  intro p l e s m args below meth c0 Z H locs ls X hl hh
  have he : (aWs md Z σ)[a]? = some (Z.1 + a, .inl (Z.2.2.1.2.2.1, aLn a, .inr (.inl (gL σ a)))) := by rw [aWs_get (hr.lt hh.2.1), aCell_l hr.1]
  exact va_lald X.1 X.2.1 X.2.2.2.2.2.2.2.2.2.1 hh.2.2.1 a 2 he rfl hi hd (kk p l e s m args below meth c0 Z H locs ls X hl hh)
theorem w_aaloadS {a : Nat} {i : Int32} (hd : decode M.2.1 pc = .ok (.aaload, 1)) (hr : okO true σ a 16) (hi : inB i (aLn a)) (kk : AW true M (pc + 1) lv (va_rf (some (41 + 2 * i.toNatClampNeg)) :: st) σ cu su r σ') : AW true M pc lv (.int i :: va_rf (some a) :: st) σ cu su r σ' := by
  intro p l e s m args below meth c0 Z H locs ls X hl hh
  have he := aWs_get (md := true) (Z := Z) (hr.lt hh.2.1)
  rw [aCell_s hr.1] at he
  exact va_aldq X.1 X.2.1 X.2.2.2.2.2.2.2.2.2.1 hh.2.2.1 a 3 he rfl hi hd (kk p l e s m args below meth c0 Z H locs ls X hl hh)
theorem w_aaloadP {a : Nat} {i : Int32} (hd : decode M.2.1 pc = .ok (.aaload, 1)) (hr : okO md σ a 17) (hi : inB i (aLn a)) (kk : AW md M (pc + 1) lv (va_rf (gR σ a i.toNatClampNeg) :: st) σ cu su r σ') : AW md M pc lv (.int i :: va_rf (some a) :: st) σ cu su r σ' := by
  intro p l e s m args below meth c0 Z H locs ls X hl hh
  have he := aWs_get (md := md) (Z := Z) (hr.lt hh.2.1)
  rw [aCell_p hr.1] at he
  have hk := kk p l e s m args below meth c0 Z H locs ls X hl hh
  rw [List.map_cons, aTr_rf] at hk
  exact va_aldq X.1 X.2.1 X.2.2.2.2.2.2.2.2.2.1 hh.2.2.1 a 4 he rfl hi hd hk
theorem w_alenI {a : Nat} (hd : decode M.2.1 pc = .ok (.arraylength, 1)) (hr : okO md σ a 13) (kk : AW md M (pc + 1) lv (.int (Int32.ofNat (aLn a)) :: st) σ cu su r σ') : AW md M pc lv (va_rf (some a) :: st) σ cu su r σ' := by
  intro p l e s m args below meth c0 Z H locs ls X hl hh
  have he : (aWs md Z σ)[a]? = some (Z.1 + a, .inl (Z.2.2.1.1, aLn a, .inl (gI σ a))) := by rw [aWs_get (hr.lt hh.2.1), aCell_i hr.1]
  exact va_alen X.1 X.2.1 X.2.2.2.2.2.2.2.2.2.1 hh.2.2.1 a 0 he rfl rfl hd (kk p l e s m args below meth c0 Z H locs ls X hl hh)
/-- behind a store into an array: the new heap -/
theorem aH_st {s : State} {Z : aZ} {H H1 : Heap} {locs locs1 : List Loc} {a : Nat} {ce : va_E} (hh : aH md Z σ s H locs) (hlt : a < gN σ) (hgn : gN σ1 = gN σ) (z : H1.size = H.size) (hc1 : aCell md Z σ1 a = ce) (hc2 : ∀ j, j ≠ a → aCell md Z σ1 j = aCell md Z σ j) (hP : va_P Z.2.1 vwCl ((aWs md Z σ).set a (Z.1 + a, ce)) H1) (hD : va_D (aA Z) ((aWs md Z σ).set a (Z.1 + a, ce))) (hS : va_S (aA Z) s.heap H1 locs1) : aH md Z σ1 s H1 locs1 := by
  have hw := aWs_set (md := md) (Z := Z) hlt hgn hc1 hc2
  rw [hw] at hP hD
  exact ⟨by rw [z, hh.1, hgn], fun h => by rw [hgn]; exact hh.2.1 h, hP, hD, hS⟩
theorem w_iastore {a : Nat} {i x : Int32} (hd : decode M.2.1 pc = .ok (.iastore, 1)) (hr : okO md σ a 13) (hi : inB i (aLn a)) (kk : AW md M (pc + 1) lv st (sI σ a i.toNatClampNeg x) cu su r σ') : AW md M pc lv (.int x :: .int i :: va_rf (some a) :: st) σ cu su r σ' := by
  intro p l e s m args below meth c0 Z H locs ls X hl hh
  have hlt := hr.lt hh.2.1
  have he : (aWs md Z σ)[a]? = some (Z.1 + a, .inl (Z.2.2.1.1, aLn a, .inl (gI σ a))) := by rw [aWs_get hlt, aCell_i hr.1]
  have hK := X.2.2.2.2.2.2.2.2.2.1
  refine W.iast X.1 X.2.1 (hh.2.2.1 a _ he) ((hK.2 0 (Z.2.2.1.1, .int) rfl).1 (aLn a) (fun j => .int (gI σ a j))) (fun q => by cases q) (by show ¬ (i < 0 ∨ (arrV _ _ _).slots.size ≤ _); rw [arrV_size]; exact hi) rfl rfl hd fun H1 e1 z oq => ?_
  refine kk p l e s m args below meth c0 Z H1 _ ls X hl (aH_st (ce := .inl (Z.2.2.1.1, aLn a, .inl (upd (gI σ a) i.toNatClampNeg x))) hh hlt rfl z ?_ (fun _ h => aOff_i h) (hh.2.2.1.set hh.2.2.2.1 he ?_ oq) (hh.2.2.2.1.set he) (hh.2.2.2.2.put z oq (hh.2.2.2.1.2 a _ he)))
  · rw [aCell_i hr.1, gI_sIr, if_pos rfl]
  · show H1[Z.1 + a]? = some (vp_cell _ _)
    rw [e1]
    rw [vp_cell_i, vp_cell_i, arrV_store]
    congr 2
    funext q
    by_cases hq : q = i.toNatClampNeg
    · subst hq
      simp [updV, upd]
    · simp [updV, upd, hq]
theorem w_bastore {a : Nat} {i x : Int32} (hd : decode M.2.1 pc = .ok (.bastore, 1)) (hr : okO md σ a 14) (hi : inB i (aLn a)) (kk : AW md M (pc + 1) lv st (sI σ a i.toNatClampNeg (vp_nar .byte x)) cu su r σ') : AW md M pc lv (.int x :: .int i :: va_rf (some a) :: st) σ cu su r σ' := by
  intro p l e s m args below meth c0 Z H locs ls X hl hh
  have hlt := hr.lt hh.2.1
  have he : (aWs md Z σ)[a]? = some (Z.1 + a, .inl (Z.2.2.1.2.1, aLn a, .inl (gI σ a))) := by rw [aWs_get hlt, aCell_b hr.1]
  have hK := X.2.2.2.2.2.2.2.2.2.1
  refine W.bast X.1 X.2.1 (hh.2.2.1 a _ he) ((hK.2 1 (Z.2.2.1.2.1, .byte) rfl).1 (aLn a) (fun j => .int (gI σ a j))) (fun q => by cases q) (by show ¬ (i < 0 ∨ (arrV _ _ _).slots.size ≤ _); rw [arrV_size]; exact hi) rfl rfl hd fun H1 e1 z oq => ?_
  refine kk p l e s m args below meth c0 Z H1 _ ls X hl (aH_st (ce := .inl (Z.2.2.1.2.1, aLn a, .inl (upd (gI σ a) i.toNatClampNeg (vp_nar .byte x)))) hh hlt rfl z ?_ (fun _ h => aOff_i h) (hh.2.2.1.set hh.2.2.2.1 he ?_ oq) (hh.2.2.2.1.set he) (hh.2.2.2.2.put z oq (hh.2.2.2.1.2 a _ he)))
  · rw [aCell_b hr.1, gI_sIr, if_pos rfl]
  · show H1[Z.1 + a]? = some (vp_cell _ _)
    rw [e1]
    rw [vp_cell_i, vp_cell_i, arrV_store]
    congr 2
    funext q
    by_cases hq : q = i.toNatClampNeg
    · subst hq
      simp [updV, upd, vp_nar]
      try rfl
    · simp [updV, upd, hq]
theorem w_lastore {a : Nat} {i : Int32} {x : Int64} (hd : decode M.2.1 pc = .ok (.lastore, 1)) (hr : okO md σ a 15) (hi : inB i (aLn a)) (kk : AW md M (pc + 1) lv st (sL σ a i.toNatClampNeg x) cu su r σ') : AW md M pc lv (.long x :: .int i :: va_rf (some a) :: st) σ cu su r σ' := by
  intro p l e s m args below meth c0 Z H locs ls X hl hh
  have hlt := hr.lt hh.2.1
  have he : (aWs md Z σ)[a]? = some (Z.1 + a, .inl (Z.2.2.1.2.2.1, aLn a, .inr (.inl (gL σ a)))) := by rw [aWs_get hlt, aCell_l hr.1]
  have hK := X.2.2.2.2.2.2.2.2.2.1
  refine W.last X.1 X.2.1 (hh.2.2.1 a _ he) ((hK.2 2 (Z.2.2.1.2.2.1, .long) rfl).1 (aLn a) (fun j => .long (gL σ a j))) (fun q => by cases q) (by show ¬ (i < 0 ∨ (arrV _ _ _).slots.size ≤ _); rw [arrV_size]; exact hi) rfl rfl hd fun H1 e1 z oq => ?_
  refine kk p l e s m args below meth c0 Z H1 _ ls X hl (aH_st (ce := .inl (Z.2.2.1.2.2.1, aLn a, .inr (.inl (vp_updL (gL σ a) i.toNatClampNeg x)))) hh hlt rfl z ?_ (fun _ h => aOff_l h) (hh.2.2.1.set hh.2.2.2.1 he ?_ oq) (hh.2.2.2.1.set he) (hh.2.2.2.2.put z oq (hh.2.2.2.1.2 a _ he)))
  · rw [aCell_l hr.1, gL_sLr, if_pos rfl]
  · show H1[Z.1 + a]? = some (vp_cell _ _)
    rw [e1]
    rw [vp_cell_l, vp_cell_l, arrV_store]
    congr 2
    funext q
    by_cases hq : q = i.toNatClampNeg
    · subst hq
      simp [updV, vp_updL]
    · simp [updV, vp_updL, hq]
/-! returns -/
theorem w_ireturn {v : Int32} (hd : decode M.2.1 pc = .ok (.ireturn, 1)) (hr : M.2.2.2.1 = some .int) (hc : cu ≤ M.2.2.2.2.2.2.1) (hs : su ≤ M.2.2.2.2.2.2.2) : AW md M pc lv [.int v] σ cu su (some (.int v)) σ := by
  intro p l e s m args below meth c0 Z H locs ls X hl hh
  refine W.widen hc hs ?_
  exact W.iret X.1 X.2.1 (X.2.2.1.trans hr) (fun t ht hW => ⟨rfl, aWo.at X hh ht hW, hh.2.2.2.2.F ht⟩) hh.2.2.2.2.2.2 hd X.2.2.2.2.2.2.1
theorem w_zreturn {v : Int32} {ty : FieldType} (hd : decode M.2.1 pc = .ok (.ireturn, 1)) (hr : M.2.2.2.1 = some ty) (hn : narrow ty (.int v) = .int v) (hc : cu ≤ M.2.2.2.2.2.2.1) (hs : su ≤ M.2.2.2.2.2.2.2) : AW md M pc lv [.int v] σ cu su (some (.int v)) σ := by
  intro p l e s m args below meth c0 Z H locs ls X hl hh
  refine W.widen hc hs ?_
  exact W.zret X.1 X.2.1 (X.2.2.1.trans hr) hn (fun t ht hW => ⟨rfl, aWo.at X hh ht hW, hh.2.2.2.2.F ht⟩) hh.2.2.2.2.2.2 hd X.2.2.2.2.2.2.1
theorem w_lreturn {v : Int64} (hd : decode M.2.1 pc = .ok (.lreturn, 1)) (hr : M.2.2.2.1 = some .long) (hc : cu ≤ M.2.2.2.2.2.2.1) (hs : su ≤ M.2.2.2.2.2.2.2) : AW md M pc lv [.long v] σ cu su (some (.long v)) σ := by
  intro p l e s m args below meth c0 Z H locs ls X hl hh
  refine W.widen hc hs ?_
  exact W.lret X.1 X.2.1 (X.2.2.1.trans hr) (fun t ht hW => ⟨rfl, aWo.at X hh ht hW, hh.2.2.2.2.F ht⟩) hh.2.2.2.2.2.2 hd X.2.2.2.2.2.2.1
theorem w_vreturn (hd : decode M.2.1 pc = .ok (.return_, 1)) (hr : M.2.2.2.1 = none) (hc : cu ≤ M.2.2.2.2.2.2.1) (hs : su ≤ M.2.2.2.2.2.2.2) : AW md M pc lv [] σ cu su none σ := by
  intro p l e s m args below meth c0 Z H locs ls X hl hh
  refine W.widen hc hs ?_
  exact W.vret X.1 X.2.1 (X.2.2.1.trans hr) (fun t ht hW => ⟨rfl, aWo.at X hh ht hW, hh.2.2.2.2.F ht⟩) hh.2.2.2.2.2.2 hd X.2.2.2.2.2.2.1
theorem w_areturn {v : Option Nat} {n : String} (hd : decode M.2.1 pc = .ok (.areturn, 1)) (hr : M.2.2.2.1 = some (.object n)) (hc : cu ≤ M.2.2.2.2.2.2.1) (hs : su ≤ M.2.2.2.2.2.2.2) : AW md M pc lv [va_rf v] σ cu su (some (va_rf v)) σ := by
  intro p l e s m args below meth c0 Z H locs ls X hl hh
  refine W.widen hc hs ?_
  exact W.aret X.1 X.2.1 (X.2.2.1.trans hr) (Or.inl ⟨_, rfl⟩) (aRf_or Z v) (fun t ht hW => ⟨rfl, aWo.at X hh ht hW, hh.2.2.2.2.F ht⟩) hh.2.2.2.2.2.2 hd X.2.2.2.2.2.2.1
end AWR2
