/-! ===== new cells, copies, calls ===== -/
abbrev aDf (md : Bool) (c j : Nat) (v : Value) : Prop := (aFt c j = 0 ∧ v = .int 0) ∨ (aFt c j = 1 ∧ v = .long 0) ∨ ((aFt c j = 2 ∨ aFt c j = 3 ∧ md = false) ∧ v = .null)
def aCl (md : Bool) (own : String) (ix c N : Nat) : Prop := ∃ (C : String) (T : u_T) (tys : Nat → FieldType), vwCl[c]? = some (C, T, N) ∧ (∀ w ∈ u_ws C T N, w ∈ wsL_law) ∧ (∀ j, j < N → parseFieldDescriptor (T j).2.2.1 = some (tys j)) ∧ c < 13 ∧ aNf c = N ∧ Cond.classLink own ix C ∈ wsL_law ∧ Cond.instantiable C N ∈ wsL_law ∧ Cond.initialized C ∈ wsL_law ∧ ∀ j, j < N → aDf md c j (defaultValue (tys j))
theorem aOff_n {md : Bool} {Z : aZ} {σ : aSt} {j : Nat} (h : j < gN σ) : aCell md Z (sN σ) j = aCell md Z σ j := aCell_ext (by rw [gI_sN, if_neg (Nat.ne_of_lt h)]) (by rw [gL_sN, if_neg (Nat.ne_of_lt h)]) (by rw [gR_sN, if_neg (Nat.ne_of_lt h)])
theorem aNew_i (σ : aSt) (k : Nat) : gI (sN σ) (gN σ) k = 0 := by rw [gI_sN, if_pos rfl]
theorem aNew_l (σ : aSt) (k : Nat) : gL (sN σ) (gN σ) k = 0 := by rw [gL_sN, if_pos rfl]
theorem aNew_r (σ : aSt) (k : Nat) : gR (sN σ) (gN σ) k = none := by rw [gR_sN, if_pos rfl]
theorem aRf_cat (x : Option Nat) : (va_rf x).category = 1 := by cases x <;> rfl
section AWN
variable {md : Bool} {M : aM} {pc : Nat} {lv lv' : List (Nat × Value)} {st : List Value} {σ σ' σ1 : aSt} {cu su : Nat} {r : Option Value}
theorem kw_size {p : Program} {l : Launch} {e : Env} {R : Room} {s : State} {m : MethodId} {args : Array Value} {below : List Frame} {meth : Method} {c : Code} {H : Heap} {locs : List Loc} {slots : Nat} {Q : State → Prop} {g : JFrame} (k : H.size = s.heap.size → W p l e R s m args below meth c H locs 0 slots Q g) : W p l e R s m args below meth c H locs 0 slots Q g := by
  intro T hT X
  have h1 : s.heap.size ≤ T.heap.size := X.same.2.1
  have h2 : T.heap.size ≤ s.heap.size + 0 := X.same.2.2.1
  exact k (by rw [← hT]; omega) T hT X
theorem w_new {c ix N : Nat} (hd : decode M.2.1 pc = .ok (.new ix, 3)) (hf : aCl md M.1.cls ix c N) (hs : aSh (gN σ) = c) (hc : cu + 1 ≤ M.2.2.2.2.2.2.1) (hsl : su + N ≤ M.2.2.2.2.2.2.2) (kk : AW md M (pc + 3) lv (va_rf (some (gN σ)) :: st) (sN σ) (cu + 1) (su + N) r σ') : AW md M pc lv st σ cu su r σ' := by
  intro p l e s m args below meth c0 Z H locs ls X hl hh
  have hk0 := kk p l e s m args below meth c0 Z
  have X0 := X
  obtain ⟨hx, hb, -, -, hown, hts, -, -, hb0, hK, -, -⟩ := X
  obtain ⟨C, T, tys, hcl, hin, hty, hc13, hN, w1, w2, w3, hdf⟩ := hf
  obtain ⟨z1, z2, z3, z4, z5⟩ := hh
  have hKn := hK.1 c _ hcl
  have hA : ∀ q, s.heap.size ≤ q → aA Z q := fun q h => Nat.le_trans hb0 h
  refine W.newcK hx hb hown (hts _ w1) (hts _ w2) (hts _ w3) rfl hd hc hsl hKn.2.1 rfl fun H1 kC hkC e1 s1 o1 => ?_
  have hkp : ∀ (k : Nat) (x : Nat × va_E), (aWs md Z σ)[k]? = some x → H1[x.1]? = H[x.1]? := fun k x hx => o1 x.1 ((z3 k x hx).lt)
  have hcell : aCell md Z (sN σ) (gN σ) = .inr (c, (List.range (aNf c)).map (aFv md Z (sN σ) c (gN σ))) := aCell_obj hs hc13
  have hw := aWs_push (md := md) (Z := Z) (σ := σ) (σ' := sN σ) rfl hcell (fun j hj => aOff_n hj)
  have hP1 : va_P Z.2.1 vwCl (aWs md Z (sN σ)) H1 := by
    rw [← hw]
    refine (z3.kept hkp).app (fun k x hx => ?_)
    have hz : k < 1 := (List.getElem?_eq_some_iff.mp hx).1
    rw [show k = 0 by omega] at hx
    cases hx
    rw [← z1]
    refine ⟨_, hcl, (u_born tys hts hin hKn hkC e1 hty).to ?_⟩
    intro j hj
    have hg : vp_V ((List.range (aNf c)).map (aFv md Z (sN σ) c (gN σ))) j = aFv md Z (sN σ) c (gN σ) j := by
      unfold vp_V
      rw [List.getD_eq_getElem?_getD, aFs_get (by rw [hN]; exact hj)]
      rfl
    rw [hg]
    rcases hdf j hj with ⟨h1, h2⟩ | ⟨h1, h2⟩ | ⟨h1, h2⟩
    · rw [aFv_i h1, h2, aNew_i]; rfl
    · rw [aFv_l h1, h2, aNew_l]; rfl
    · rw [aFv_q h1, h2, aNew_r]; rfl
  have hD1 : va_D (aA Z) (aWs md Z (sN σ)) := by
    rw [← hw]
    exact z4.push z3 z1.symm (hA _ (by rw [← z1]; exact z5.1))
  have hk1 := hk0 H1 locs ls X0 hl ⟨by rw [s1, z1]; rfl, fun h => Nat.le_succ_of_le (z2 h), hP1, hD1, ⟨Nat.le_trans z5.1 (by omega), fun x h1 h2 => (o1 x (Nat.lt_of_lt_of_le h1 z5.1)).trans (z5.2.1 x h1 h2), z5.2.2⟩⟩
  rw [z1]
  exact hk1
/-- a new array of numbers -/
theorem w_newa {at0 : ArrayType} {t0 kd : Nat} {ty : FieldType} {n : Int32} (hd : decode M.2.1 pc = .ok (.newarray at0, 2)) (hty : newarray.typeOf at0 = ty) (hw : Cond.arrayClass ty ∈ wsL_law) (htk : (ty = .int ∧ kd = 13 ∧ t0 = 0) ∨ (ty = .byte ∧ kd = 14 ∧ t0 = 1) ∨ (ty = .long ∧ kd = 15 ∧ t0 = 2)) (hs : aSh (gN σ) = kd) (hn : ¬ n < 0) (hln : n.toNatClampNeg = aLn (gN σ)) (hbig : aLn (gN σ) ≤ 10000) (hc : cu + 1 ≤ M.2.2.2.2.2.2.1) (hsl : su + aLn (gN σ) ≤ M.2.2.2.2.2.2.2) (kk : AW md M (pc + 2) lv (va_rf (some (gN σ)) :: st) (sN σ) (cu + 1) (su + aLn (gN σ)) r σ') : AW md M pc lv (.int n :: st) σ cu su r σ' := by
  intro p l e s m args below meth c0 Z H locs ls X hl hh
  have hk0 := kk p l e s m args below meth c0 Z
  have X0 := X
  obtain ⟨hx, hb, -, -, hown, hts, -, -, hb0, hK, -, -⟩ := X
  obtain ⟨z1, z2, z3, z4, z5⟩ := hh
  have hA : ∀ q, s.heap.size ≤ q → aA Z q := fun q h => Nat.le_trans hb0 h
  subst hty
  refine va_newaK hx hb (hts _ hw) rfl hd rfl hn hln (by cases at0 <;> simp [newarray.typeOf, componentBytes] at htk ⊢ <;> omega) hc hsl rfl fun H1 cA e1 s1 o1 hAr hNm => ?_
  have hkp : ∀ (k : Nat) (x : Nat × va_E), (aWs md Z σ)[k]? = some x → H1[x.1]? = H[x.1]? := fun k x hx => o1 x.1 ((z3 k x hx).lt)
  have hce : ∃ ce : ClassId × vp_A, aCell md Z (sN σ) (gN σ) = .inl ce ∧ vp_cell ce.1 ce.2 = arrV cA (aLn (gN σ)) (fun _ => defaultValue (newarray.typeOf at0)) := by
    rcases htk with ⟨h1, h2, h3⟩ | ⟨h1, h2, h3⟩ | ⟨h1, h2, h3⟩
    · have hc1 := (hK.2 0 (Z.2.2.1.1, .int) rfl).2
      rw [h1] at hNm ⊢
      have : Z.2.2.1.1 = cA := Option.some.inj (hc1.symm.trans hNm)
      refine ⟨_, aCell_i (by rw [hs, h2]), ?_⟩
      rw [vp_cell_i, this]
      congr 1
      funext j
      rw [aNew_i]; rfl
    · have hc1 := (hK.2 1 (Z.2.2.1.2.1, .byte) rfl).2
      rw [h1] at hNm ⊢
      have : Z.2.2.1.2.1 = cA := Option.some.inj (hc1.symm.trans hNm)
      refine ⟨_, aCell_b (by rw [hs, h2]), ?_⟩
      rw [vp_cell_i, this]
      congr 1
      funext j
      rw [aNew_i]; rfl
    · have hc1 := (hK.2 2 (Z.2.2.1.2.2.1, .long) rfl).2
      rw [h1] at hNm ⊢
      have : Z.2.2.1.2.2.1 = cA := Option.some.inj (hc1.symm.trans hNm)
      refine ⟨_, aCell_l (by rw [hs, h2]), ?_⟩
      rw [vp_cell_l, this]
      congr 1
      funext j
      rw [aNew_l]; rfl
  obtain ⟨ce, hcell, hcv⟩ := hce
  have hw := aWs_push (md := md) (Z := Z) (σ := σ) (σ' := sN σ) rfl hcell (fun j hj => aOff_n hj)
  have hP1 : va_P Z.2.1 vwCl (aWs md Z (sN σ)) H1 := by
    rw [← hw]
    refine (z3.kept hkp).app (fun k x hx => ?_)
    have hz : k < 1 := (List.getElem?_eq_some_iff.mp hx).1
    rw [show k = 0 by omega] at hx
    cases hx
    show H1[Z.1 + gN σ]? = some (vp_cell ce.1 ce.2)
    rw [hcv, ← z1]
    exact e1
  have hD1 : va_D (aA Z) (aWs md Z (sN σ)) := by
    rw [← hw]
    exact z4.push z3 z1.symm (hA _ (by rw [← z1]; exact z5.1))
  have hk1 := hk0 H1 locs ls X0 hl ⟨by rw [s1, z1]; rfl, fun h => Nat.le_succ_of_le (z2 h), hP1, hD1, ⟨Nat.le_trans z5.1 (by omega), fun x h1 h2 => (o1 x (Nat.lt_of_lt_of_le h1 z5.1)).trans (z5.2.1 x h1 h2), z5.2.2⟩⟩
  rw [z1]
  exact hk1
/-- a new array of references, in the constructors' world -/
theorem w_anew {kd t0 ix : Nat} {C : String} {n : Int32} (hd : decode M.2.1 pc = .ok (.anewarray ix, 3)) (hw : Cond.classLink M.1.cls ix C ∈ wsL_law) (htk : (C = RX9 ∧ kd = 16) ∨ (C = RX4 ∧ kd = 17)) (hs : aSh (gN σ) = kd) (hn : ¬ n < 0) (hln : n.toNatClampNeg = aLn (gN σ)) (hbig : aLn (gN σ) ≤ 10000) (hc : cu + 1 ≤ M.2.2.2.2.2.2.1) (hsl : su + aLn (gN σ) ≤ M.2.2.2.2.2.2.2) (kk : AW false M (pc + 3) lv (va_rf (some (gN σ)) :: st) (sN σ) (cu + 1) (su + aLn (gN σ)) r σ') : AW false M pc lv (.int n :: st) σ cu su r σ' := by
  intro p l e s m args below meth c0 Z H locs ls X hl hh
  have hk0 := kk p l e s m args below meth c0 Z
  have X0 := X
  obtain ⟨hx, hb, -, -, hown, hts, -, -, hb0, hK, hNs, -⟩ := X
  obtain ⟨z1, z2, z3, z4, z5⟩ := hh
  have hA : ∀ q, s.heap.size ≤ q → aA Z q := fun q h => Nat.le_trans hb0 h
  have hov : (Cond.arrayOver (.object C)).before args s = true := by
    rcases htk with ⟨h1, -⟩ | ⟨h1, -⟩
    · rw [h1]; exact va_AO.use hNs.2.1
    · rw [h1]; exact va_AO.use hNs.2.2
  refine W.anew hx hb hown (hts _ hw) hov rfl hd rfl hn (by rw [hln]; omega) hc (by rw [hln]; exact hsl) fun cA kA comp f1 f2 f3 f4 => ?_
  rw [hln]
  generalize hH1 : H.push ({ cls := cA, slots := Array.replicate (aLn (gN σ)) .null, vm := .none } : Cell) = H1
  have s1 : H1.size = H.size + 1 := by rw [← hH1, Array.size_push]
  have e1 : H1[H.size]? = some (arrV cA (aLn (gN σ)) (fun _ => .null)) := by rw [← hH1, Array.getElem?_push_size, ← arrV_new]
  have o1 : ∀ q : Nat, q < H.size → H1[q]? = H[q]? := fun q hq => by rw [← hH1, Array.getElem?_push, if_neg (Nat.ne_of_lt hq)]
  have hkp : ∀ (k : Nat) (x : Nat × va_E), (aWs false Z σ)[k]? = some x → H1[x.1]? = H[x.1]? := fun k x hx => o1 x.1 ((z3 k x hx).lt)
  have hce : ∃ ce : ClassId × vp_A, aCell false Z (sN σ) (gN σ) = .inl ce ∧ vp_cell ce.1 ce.2 = arrV cA (aLn (gN σ)) (fun _ => .null) := by
    rcases htk with ⟨h1, h2⟩ | ⟨h1, h2⟩
    · obtain ⟨_, _, -, -, -, hc1⟩ := (hK.2 3 (Z.2.2.1.2.2.2.1, .object RX9) rfl).2
      rw [h1] at f1
      have : Z.2.2.1.2.2.2.1 = cA := Option.some.inj (hc1.symm.trans f1)
      refine ⟨_, aCell_s (by rw [hs, h2]), ?_⟩
      rw [vp_cell_q, this]
      congr 1
      funext j
      rw [aNew_r]; rfl
    · obtain ⟨_, _, -, -, -, hc1⟩ := (hK.2 4 (Z.2.2.1.2.2.2.2, .object RX4) rfl).2
      rw [h1] at f1
      have : Z.2.2.1.2.2.2.2 = cA := Option.some.inj (hc1.symm.trans f1)
      refine ⟨_, aCell_p (by rw [hs, h2]), ?_⟩
      rw [vp_cell_q, this]
      congr 1
      funext j
      rw [aNew_r]; rfl
  obtain ⟨ce, hcell, hcv⟩ := hce
  have hw := aWs_push (md := false) (Z := Z) (σ := σ) (σ' := sN σ) rfl hcell (fun j hj => aOff_n hj)
  have hP1 : va_P Z.2.1 vwCl (aWs false Z (sN σ)) H1 := by
    rw [← hw]
    refine (z3.kept hkp).app (fun k x hx => ?_)
    have hz : k < 1 := (List.getElem?_eq_some_iff.mp hx).1
    rw [show k = 0 by omega] at hx
    cases hx
    show H1[Z.1 + gN σ]? = some (vp_cell ce.1 ce.2)
    rw [hcv, ← z1]
    exact e1
  have hD1 : va_D (aA Z) (aWs false Z (sN σ)) := by
    rw [← hw]
    exact z4.push z3 z1.symm (hA _ (by rw [← z1]; exact z5.1))
  have hk1 := hk0 H1 locs ls X0 hl ⟨by rw [s1, z1]; rfl, fun h => Nat.le_succ_of_le (z2 h), hP1, hD1, ⟨Nat.le_trans z5.1 (by omega), fun x h1 h2 => (o1 x (Nat.lt_of_lt_of_le h1 z5.1)).trans (z5.2.1 x h1 h2), z5.2.2⟩⟩
  rw [z1]
  exact hk1
/-- a reference is stored into an array: kinds 17 (payments, class 4), 16 (sheets, class 9, in the constructors' world) -/
theorem w_aastore {a v kd ci t0 : Nat} {i : Int32} (hd : decode M.2.1 pc = .ok (.aastore, 1)) (htk : (kd = 17 ∧ ci = 4) ∨ (kd = 16 ∧ ci = 9 ∧ md = false)) (hr : okO md σ a kd) (hv : okO md σ v ci) (hi : inB i (aLn a)) (kk : AW md M (pc + 1) lv st (sR σ a i.toNatClampNeg (some v)) cu su r σ') : AW md M pc lv (va_rf (some v) :: .int i :: va_rf (some a) :: st) σ cu su r σ' := by
  intro p l e s m args below meth c0 Z H locs ls X hl hh
  have hlt := hr.lt hh.2.1
  have hltv := hv.lt hh.2.1
  have hK := X.2.2.2.2.2.2.2.2.2.1
  have hci : ci < 13 := by rcases htk with ⟨-, h⟩ | ⟨-, h, -⟩ <;> omega
  have hev : (aWs md Z σ)[v]? = some (Z.1 + v, .inr (ci, (List.range (aNf ci)).map (aFv md Z σ ci v))) := by rw [aWs_get hltv, aCell_obj hv.1 hci]
  have hx : ∃ (cA : ClassId) (q : vw_C) (t1 : Nat), aCell md Z σ a = .inl (cA, aLn a, .inr (.inr (.inr (.inr (fun j => aOf Z (gR σ a j)))))) ∧ aCell md Z (sR σ a i.toNatClampNeg (some v)) a = .inl (cA, aLn a, .inr (.inr (.inr (.inr (fun j => aOf Z (va_up (gR σ a) i.toNatClampNeg (some v) j)))))) ∧ vwCl[ci]? = some q ∧ (aTys Z)[t1]? = some (cA, .object q.1) := by
    rcases htk with ⟨h1, h2⟩ | ⟨h1, h2, h3⟩
    · subst h2
      exact ⟨_, (RX4, TX4, 8), 4, aCell_p (hr.1.trans h1), by rw [aCell_p (hr.1.trans h1), gR_sRr, if_pos rfl], rfl, rfl⟩
    · subst h2; subst h3
      refine ⟨_, (RX9, TX9, 4), 3, ?_, ?_, rfl, rfl⟩
      · rw [aCell_s (hr.1.trans h1)]; rfl
      · rw [aCell_s (hr.1.trans h1), gR_sRr, if_pos rfl]; rfl
  obtain ⟨cA, q, t1, hc1, hc2, hcl, ht⟩ := hx
  have he : (aWs md Z σ)[a]? = some (Z.1 + a, .inl (cA, aLn a, .inr (.inr (.inr (.inr (fun j => aOf Z (gR σ a j))))))) := by rw [aWs_get hlt, hc1]
  have hP := hh.2.2.1
  have hD := hh.2.2.2.1
  have hin := hi
  have hlt2 : i.toNatClampNeg < aLn a := Nat.not_le.mp fun q => hin (Or.inr q)
  have h0 : ¬ i < 0 := fun q => hin (Or.inl q)
  obtain ⟨r', hr', cellV, g1, g2, g3, -⟩ := hP v _ hev
  have hcls := (hK.1 ci q hcl).2
  obtain ⟨kA, comp, k1, k2, k3, -⟩ := (hK.2 t1 _ ht).2
  have hcomp : comp = Z.2.1.1 ci := Option.some.inj (k3.symm.trans hcls.1)
  subst hcomp
  obtain ⟨kC, hkC, -⟩ := hcls.2
  refine W.aast X.1 X.2.1 (hP a _ he) (fun q h => by cases h) (fun h => by cases h) k1 k2 rfl hkC ⟨h0, by show _ < (arrV _ _ _).slots.size; rw [arrV_size]; exact hlt2⟩ g1 (fun q h => by rw [g3] at h; cases h) (by rw [g2]; exact hkC) (by rw [g2]; exact va_assign hcls) rfl rfl hd fun H1 e1 z oq => ?_
  refine kk p l e s m args below meth c0 Z H1 _ ls X hl (aH_st hh hlt rfl z hc2 (fun _ h => aOff_q h) (hP.set hD he ?_ oq) (hD.set he) (hh.2.2.2.2.put z oq (hD.2 a _ he)))
  show H1[Z.1 + a]? = some (vp_cell _ _)
  rw [e1]
  rw [vp_cell_q, vp_cell_q, arrV_store]
  congr 2
  funext q
  by_cases hq : q = i.toNatClampNeg
  · subst hq
    simp [updV, va_up, va_rf, aOf]
  · simp [updV, va_up, hq]
/-- System.arraycopy of ints -/
theorem w_copy {a b ix : Nat} {sp dp n : Int32} (hd : decode M.2.1 pc = .ok (.invokestatic ix, 3)) (hw : Cond.methodLink M.1.cls ix arraycopyName ∈ wsL_law) (w2 : Cond.native arraycopyName ∈ wsL_law) (w3 : Cond.static arraycopyName ∈ wsL_law) (w4 : Cond.initialized "java/lang/System" ∈ wsL_law) (hr : okO md σ a 13) (hr2 : okO md σ b 13) (h1 : ¬ sp < 0) (h2 : ¬ dp < 0) (h3 : ¬ n < 0) (h4 : sp.toNatClampNeg + n.toNatClampNeg ≤ aLn a) (h5 : dp.toNatClampNeg + n.toNatClampNeg ≤ aLn b) (hfr : 1 ≤ M.2.2.2.2.1) (hlo : (st.map fun v => v.category).sum + (nativeFrameWords "java/lang/System" "arraycopy" 5 + 11) ≤ M.2.2.2.2.2.1) (kk : AW md M (pc + 3) lv st (sC σ a sp.toNatClampNeg b dp.toNatClampNeg n.toNatClampNeg) 0 su r σ') : AW md M pc lv (.int n :: .int dp :: va_rf (some b) :: .int sp :: va_rf (some a) :: st) σ 0 su r σ' := by
  intro p l e s m args below meth c0 Z H locs ls X hl hh
  have hts := X.2.2.2.2.2.1
  have hlt := hr2.lt hh.2.1
  have he : (aWs md Z σ)[a]? = some (Z.1 + a, .inl (Z.2.2.1.1, aLn a, .inl (gI σ a))) := by rw [aWs_get (hr.lt hh.2.1), aCell_i hr.1]
  have he2 : (aWs md Z σ)[b]? = some (Z.1 + b, .inl (Z.2.2.1.1, aLn b, .inl (gI σ b))) := by rw [aWs_get hlt, aCell_i hr2.1]
  have hcat : ((st.map (aTr Z)).map fun v => v.category).sum = (st.map fun v => v.category).sum := by
    rw [List.map_map]
    congr 1
    apply List.map_congr_left
    intro v _
    exact aTr_cat Z v
  refine kw_size fun e0 => ?_
  refine va_copyi X.1 X.2.1 (X.2.2.2.1.trans hl.1.symm) X.2.2.2.2.1 (hts _ hw) (hts _ w2) (hts _ w3) (hts _ w4) X.2.2.2.2.2.2.2.2.2.1 hh.2.2.1 hh.2.2.2.1 hh.2.2.2.2 a b 0 0 he he2 rfl rfl rfl h1 h2 h3 h4 h5 (fun _ _ => rfl) hfr (by rw [hcat]; exact hlo) hd (fun H1 locs1 hP hD hS => ?_)
  refine kw_size fun e1 => ?_
  exact kk p l e s m args below meth c0 Z H1 locs1 ls X hl (aH_st hh hlt rfl (e1.trans e0.symm) (by rw [aCell_i hr2.1, gI_sC, if_pos rfl]) (fun _ h => aOff_c h) hP hD hS)
/-! calls -/
theorem aGood {M2 : aM} (hc : Cond.code M2.1 M2.2.1 M2.2.2.1 M2.2.2.2.1 ∈ wsL_law) : GoodIn wsL_law (aWd M2) := fun w hw => by
  rcases List.mem_cons.mp hw with rfl | h
  · exact ⟨hc, (wsG_ok _ hc).2⟩
  · exact ⟨h, (wsG_ok w h).2⟩
theorem aCat (Z : aZ) (st : List Value) : ((st.map (aTr Z)).map fun v => v.category).sum = (st.map fun v => v.category).sum := by
  rw [List.map_map]
  congr 1
  apply List.map_congr_left
  intro v _
  exact aTr_cat Z v
theorem aw_go {p : Program} {l : Launch} {e : Env} {s : State} {m : MethodId} {args : Array Value} {below : List Frame} {meth : Method} {c : Code} {Z : aZ} {H : Heap} {locs : List Loc} {ls : Array Slot} {rv : Option Value} {R : Room} {Q : State → Prop} {mc2 ms2 cells slots : Nat} {a : Array Value} {st0 rest : List Value} (hr : va_Run p l e R s m args below meth c H locs cells slots mc2 ms2 (F0 m pc ls st0) rest (aQ md Z rv σ1 a) (aA Z)) (hS : va_S (aA Z) s.heap H locs)
    (kk : ∀ (H1 : Heap) (locs1 : List Loc), aH md Z σ1 s H1 locs1 → W p l e R s m args below meth c H1 locs1 (cells + mc2) (slots + ms2) Q (F0 m (pc + 3) ls ((rv.map (aTr Z)).toList ++ rest))) : W p l e R s m args below meth c H locs cells slots Q (F0 m pc ls st0) := by
  intro T hT X
  obtain ⟨v, st₀, t, T', L, h0, X', hL, e1, e2, ⟨hv, hwo, hz, hk⟩, hst⟩ := hr T hT X
  cases hv
  rw [h0] at hz hk
  obtain ⟨q1, q2, q3, q4, -⟩ := hwo
  obtain ⟨t2, a1, b1⟩ := kk T'.heap (locs ++ L) ⟨by rw [e1]; exact q1, q2, by rw [e1]; exact q3, q4,
    ⟨Nat.le_trans hS.1 (by rw [e1]; exact hz), fun q h1 h2 => by rw [e1, hk q (Nat.lt_of_lt_of_le h1 hS.1) h2]; exact hS.2.1 q h1 h2, fun q hq => by
      rcases List.mem_append.mp hq with h | h
      · exact hS.2.2 q h
      · exact hL q h⟩⟩ T' rfl X'
  exact ⟨t2, hst t2 a1, b1⟩
theorem aRet (Z : aZ) (rv : Option Value) (st : List Value) : (rv.toList ++ st).map (aTr Z) = (rv.map (aTr Z)).toList ++ st.map (aTr Z) := by
  cases rv <;> rfl
def aNoMH (M2 : aM) (n : Nat) : Prop := M2.1.cls ≠ "java/lang/invoke/MethodHandle" ∧ M2.1.cls ≠ "java/lang/invoke/VarHandle" ∧ (parseMethodDescriptor M2.1.desc).map (fun d => d.parameters.length) = some n
def aFit (M M2 : aM) (cu su : Nat) : Prop := M2.2.2.2.2.1 + 1 ≤ M.2.2.2.2.1 ∧ 8 + (M2.2.2.1 + 11) + M2.2.2.2.2.2.1 ≤ M.2.2.2.2.2.1 ∧ cu + M2.2.2.2.2.2.2.1 ≤ M.2.2.2.2.2.2.1 ∧ su + M2.2.2.2.2.2.2.2 ≤ M.2.2.2.2.2.2.2
/-- the words of a callee -/
def aKd (M2 : aM) (n : Nat) : Prop := Cond.code M2.1 M2.2.1 M2.2.2.1 M2.2.2.2.1 ∈ wsL_law ∧ Cond.initialized M2.1.cls ∈ wsL_law ∧ aNoMH M2 n
theorem w_callV {M2 : aM} {ix n b ci : Nat} {stk av : List Value} {rv : Option Value} (hM : AM md M2 (va_rf (some b) :: av) σ rv σ1) (hd : decode M.2.1 pc = .ok (.invokevirtual ix, 3)) (hk : aKd M2 n) (w1 : Cond.methodLink M.1.cls ix M2.1 ∈ wsL_law) (w2 : Cond.instanceMethod M2.1 ∈ wsL_law) (w3 : Cond.selects M2.1.cls M2.1 M2.1 ∈ wsL_law) (hn : av.length = n) (hst : stk = av.reverse ++ va_rf (some b) :: st) (hr : okO md σ b ci) (hci : (vwCl[ci]?.map (·.1)) = some M2.1.cls) (hfit : aFit M M2 cu su) (hcat : (st.map fun v => v.category).sum ≤ 8) (kk : AW md M (pc + 3) lv (rv.toList ++ st) σ1 (cu + M2.2.2.2.2.2.2.1) (su + M2.2.2.2.2.2.2.2) r σ') : AW md M pc lv stk σ cu su r σ' := by
  intro p l e s m args below meth c0 Z H locs ls X hl hh
  subst hst
  have hts := X.2.2.2.2.2.1
  obtain ⟨k1, k2, k3, k4, k5⟩ := hk
  obtain ⟨f1, f2, f3, f4⟩ := hfit
  obtain ⟨q, hq⟩ : ∃ q, vwCl[ci]? = some q := by
    cases h : vwCl[ci]? with
    | none => rw [h] at hci; cases hci
    | some q => exact ⟨q, rfl⟩
  have hqn : q.1 = M2.1.cls := by rw [hq] at hci; exact Option.some.inj hci
  have hci13 : ci < 13 := (List.getElem?_eq_some_iff.mp hq).1
  have he : (aWs md Z σ)[b]? = some (Z.1 + b, .inr (ci, (List.range (aNf ci)).map (aFv md Z σ ci b))) := by rw [aWs_get (hr.lt hh.2.1), aCell_obj hr.1 hci13]
  have hrec := va_recv X.2.2.2.2.2.2.2.2.2.1 hh.2.2.1 hq he
  rw [hqn] at hrec
  refine aw_go (va_runV (As := av.map (aTr Z)) (b := Z.1 + b) (rest := st.map (aTr Z)) (C := M2.1.cls) (n := n) ⟨X.1, X.2.1, X.2.2.2.1, X.2.2.2.2.1, hts⟩ (hM l Z) ⟨⟨rfl, rfl, f1, f2, pay_in hts (aGood k1), List.mem_cons_self, hts _ k1, hts _ k2, ⟨k3, k4⟩, fun sig h => ?_, hts _ w1⟩, hts _ w2, hts _ w3⟩ ⟨aWo.blind, hrec, fun U hU hW => ⟨rfl, aWo.at X hh hU hW⟩⟩ rfl (by rw [List.length_map]; exact hn) hl.1 ?_ (lv_room (by rw [aCat]; exact hcat)) hd ⟨f3, f4⟩) hh.2.2.2.2 (fun H1 locs1 hh1 => ?_)
  · rw [h] at k5
    exact (Option.some.inj k5).symm
  · show (av.reverse ++ va_rf (some b) :: st).map (aTr Z) = _
    rw [List.map_append, List.map_reverse]
    rfl
  · rw [← aRet]
    exact kk p l e s m args below meth c0 Z H1 locs1 ls X hl hh1
theorem w_callS {M2 : aM} {ix n : Nat} {stk av : List Value} {rv : Option Value} (hM : AM md M2 av σ rv σ1) (hd : decode M.2.1 pc = .ok (.invokestatic ix, 3)) (hk : aKd M2 n) (w1 : Cond.methodLink M.1.cls ix M2.1 ∈ wsL_law) (w2 : Cond.static M2.1 ∈ wsL_law) (hn : av.length = n) (hst : stk = av.reverse ++ st) (hfit : aFit M M2 cu su) (hcat : (st.map fun v => v.category).sum ≤ 8) (kk : AW md M (pc + 3) lv (rv.toList ++ st) σ1 (cu + M2.2.2.2.2.2.2.1) (su + M2.2.2.2.2.2.2.2) r σ') : AW md M pc lv stk σ cu su r σ' := by
  intro p l e s m args below meth c0 Z H locs ls X hl hh
  subst hst
  have hts := X.2.2.2.2.2.1
  obtain ⟨k1, k2, k3, k4, k5⟩ := hk
  obtain ⟨f1, f2, f3, f4⟩ := hfit
  refine aw_go (va_runS (As := av.map (aTr Z)) (rest := st.map (aTr Z)) (n := n) ⟨X.1, X.2.1, X.2.2.2.1, X.2.2.2.2.1, hts⟩ (hM l Z) ⟨⟨rfl, rfl, f1, f2, pay_in hts (aGood k1), List.mem_cons_self, hts _ k1, hts _ k2, ⟨k3, k4⟩, fun sig h => ?_, hts _ w1⟩, hts _ w2⟩ ⟨aWo.blind, fun U hU hW => ⟨rfl, aWo.at X hh hU hW⟩⟩ rfl (by rw [List.length_map]; exact hn) hl.1 ?_ (lv_room (by rw [aCat]; exact hcat)) hd ⟨f3, f4⟩) hh.2.2.2.2 (fun H1 locs1 hh1 => ?_)
  · rw [h] at k5
    exact (Option.some.inj k5).symm
  · show (av.reverse ++ st).map (aTr Z) = _
    rw [List.map_append, List.map_reverse]
  · rw [← aRet]
    exact kk p l e s m args below meth c0 Z H1 locs1 ls X hl hh1
theorem w_callSN {M2 : aM} {ix n : Nat} {host : String} {stk av : List Value} {rv : Option Value} (hM : AM md M2 av σ rv σ1) (hd : decode M.2.1 pc = .ok (.invokestatic ix, 3)) (hk : aKd M2 n) (w1 : (M.1.cls, ix, M2.1, host) ∈ aNest) (w2 : Cond.static M2.1 ∈ wsL_law) (hn : av.length = n) (hst : stk = av.reverse ++ st) (hfit : aFit M M2 cu su) (hcat : (st.map fun v => v.category).sum ≤ 8) (kk : AW md M (pc + 3) lv (rv.toList ++ st) σ1 (cu + M2.2.2.2.2.2.2.1) (su + M2.2.2.2.2.2.2.2) r σ') : AW md M pc lv stk σ cu su r σ' := by
  intro p l e s m args below meth c0 Z H locs ls X hl hh
  subst hst
  have hts := X.2.2.2.2.2.1
  obtain ⟨k1, k2, k3, k4, k5⟩ := hk
  obtain ⟨f1, f2, f3, f4⟩ := hfit
  have hnl := X.2.2.2.2.2.2.2.2.2.2.1.1 _ w1
  refine aw_go (va_runSN (As := av.map (aTr Z)) (rest := st.map (aTr Z)) (host := host) (n := n) ⟨X.1, X.2.1, X.2.2.2.1, X.2.2.2.2.1, hts⟩ (hM l Z) ⟨⟨⟨rfl, rfl, f1, f2, pay_in hts (aGood k1), List.mem_cons_self⟩, hts _ k1, hts _ k2, ⟨k3, k4⟩, fun sig h => ?_, va_Nw.use rfl hnl⟩, hts _ w2, trivial⟩ ⟨aWo.blind, fun U hU hW => ⟨rfl, aWo.at X hh hU hW⟩⟩ rfl (by rw [List.length_map]; exact hn) hl.1 ?_ (lv_room (by rw [aCat]; exact hcat)) hd ⟨f3, f4⟩) hh.2.2.2.2 (fun H1 locs1 hh1 => ?_)
  · rw [h] at k5
    exact (Option.some.inj k5).symm
  · show (av.reverse ++ st).map (aTr Z) = _
    rw [List.map_append, List.map_reverse]
  · rw [← aRet]
    exact kk p l e s m args below meth c0 Z H1 locs1 ls X hl hh1
theorem w_callI {M2 : aM} {ix n b : Nat} {stk av : List Value} (hM : AM md M2 (va_rf (some b) :: av) σ none σ1) (hd : decode M.2.1 pc = .ok (.invokespecial ix, 3)) (hk : aKd M2 n) (hrn : M2.2.2.2.1 = none) (hy : M2.1.name = "<init>") (w1 : Cond.methodLink M.1.cls ix M2.1 ∈ wsL_law) (w2 : Cond.instanceMethod M2.1 ∈ wsL_law) (hn : av.length = n) (hst : stk = av.reverse ++ va_rf (some b) :: st) (hfit : aFit M M2 cu su) (hcat : (st.map fun v => v.category).sum ≤ 8) (kk : AW md M (pc + 3) lv st σ1 (cu + M2.2.2.2.2.2.2.1) (su + M2.2.2.2.2.2.2.2) r σ') : AW md M pc lv stk σ cu su r σ' := by
  intro p l e s m args below meth c0 Z H locs ls X hl hh
  subst hst
  have hts := X.2.2.2.2.2.1
  obtain ⟨k1, k2, k3, k4, k5⟩ := hk
  obtain ⟨f1, f2, f3, f4⟩ := hfit
  rw [hrn] at k1
  refine aw_go (rv := none) (va_runI (As := av.map (aTr Z)) (b := Z.1 + b) (rest := st.map (aTr Z)) (n := n) (bytes := M2.2.1) (maxL := M2.2.2.1) ⟨X.1, X.2.1, X.2.2.2.1, X.2.2.2.2.1, hts⟩ (hM l Z) ⟨⟨rfl, rfl, f1, f2, pay_in hts (aGood (by rw [hrn]; exact k1)), by unfold aWd; rw [hrn]; exact List.mem_cons_self, hts _ k1, hts _ k2, ⟨k3, k4⟩, fun sig h => ?_, hts _ w1⟩, hy, hts _ w2⟩ ⟨aWo.blind, fun U hU hW => ⟨rfl, aWo.at X hh hU hW⟩⟩ rfl (by rw [List.length_map]; exact hn) hl.1 ?_ (lv_room (by rw [aCat]; exact hcat)) hd ⟨f3, f4⟩) hh.2.2.2.2 (fun H1 locs1 hh1 => ?_)
  · rw [h] at k5
    exact (Option.some.inj k5).symm
  · show (av.reverse ++ va_rf (some b) :: st).map (aTr Z) = _
    rw [List.map_append, List.map_reverse]
    rfl
  · exact kk p l e s m args below meth c0 Z H1 locs1 ls X hl hh1
theorem w_callIN {M2 : aM} {ix n b : Nat} {host : String} {stk av : List Value} (hM : AM md M2 (va_rf (some b) :: av) σ none σ1) (hd : decode M.2.1 pc = .ok (.invokespecial ix, 3)) (hk : aKd M2 n) (hrn : M2.2.2.2.1 = none) (hy : M2.1.name = "<init>") (w1 : (M.1.cls, ix, M2.1, host) ∈ aNest) (w2 : Cond.instanceMethod M2.1 ∈ wsL_law) (hn : av.length = n) (hst : stk = av.reverse ++ va_rf (some b) :: st) (hfit : aFit M M2 cu su) (hcat : (st.map fun v => v.category).sum ≤ 8) (kk : AW md M (pc + 3) lv st σ1 (cu + M2.2.2.2.2.2.2.1) (su + M2.2.2.2.2.2.2.2) r σ') : AW md M pc lv stk σ cu su r σ' := by
  intro p l e s m args below meth c0 Z H locs ls X hl hh
  subst hst
  have hts := X.2.2.2.2.2.1
  obtain ⟨k1, k2, k3, k4, k5⟩ := hk
  obtain ⟨f1, f2, f3, f4⟩ := hfit
  rw [hrn] at k1
  have hnl := X.2.2.2.2.2.2.2.2.2.2.1.1 _ w1
  refine aw_go (rv := none) (va_runIN (As := av.map (aTr Z)) (b := Z.1 + b) (rest := st.map (aTr Z)) (n := n) (host := host) (bytes := M2.2.1) (maxL := M2.2.2.1) ⟨X.1, X.2.1, X.2.2.2.1, X.2.2.2.2.1, hts⟩ (hM l Z) ⟨⟨⟨rfl, rfl, f1, f2, pay_in hts (aGood (by rw [hrn]; exact k1)), by unfold aWd; rw [hrn]; exact List.mem_cons_self⟩, hts _ k1, hts _ k2, ⟨k3, k4⟩, fun sig h => ?_, va_Nw.use rfl hnl⟩, hy, hts _ w2⟩ ⟨aWo.blind, fun U hU hW => ⟨rfl, aWo.at X hh hU hW⟩⟩ rfl (by rw [List.length_map]; exact hn) hl.1 ?_ (lv_room (by rw [aCat]; exact hcat)) hd ⟨f3, f4⟩) hh.2.2.2.2 (fun H1 locs1 hh1 => ?_)
  · rw [h] at k5
    exact (Option.some.inj k5).symm
  · show (av.reverse ++ va_rf (some b) :: st).map (aTr Z) = _
    rw [List.map_append, List.map_reverse]
    rfl
  · exact kk p l e s m args below meth c0 Z H1 locs1 ls X hl hh1
theorem w_objInit {ix : Nat} {b : Nat} (hd : decode M.2.1 pc = .ok (.invokespecial ix, 3)) (w1 : Cond.methodLink M.1.cls ix objectInit ∈ wsL_law) (w2 : Cond.instanceMethod objectInit ∈ wsL_law) (w3 : Cond.code objectInit ⟨#[0xb1]⟩ 1 none ∈ wsL_law) (hfr : 1 ≤ M.2.2.2.2.1) (hlo : (st.map fun v => v.category).sum + 12 ≤ M.2.2.2.2.2.1) (kk : AW md M (pc + 3) lv st σ cu su r σ') : AW md M pc lv (va_rf (some b) :: st) σ cu su r σ' := by
  intro p l e s m args below meth c0 Z H locs ls X hl hh
  have hts := X.2.2.2.2.2.1
  exact W.objInit X.1 X.2.1 X.2.2.2.2.1 (hts _ w1) (hts _ w2) (hts _ w3) rfl (hl.1.trans X.2.2.2.1.symm) rfl hd hfr (by show 2 * 0 + _ + 12 ≤ _; rw [aCat]; show 2 * 0 + _ + 12 ≤ M.2.2.2.2.2.1; omega) (kk p l e s m args below meth c0 Z H locs ls X hl hh)
theorem w_max {ix : Nat} {x y : Int32} (hd : decode M.2.1 pc = .ok (.invokestatic ix, 3)) (w1 : Cond.methodLink M.1.cls ix Lib.Math.max.name ∈ wsL_law) (w2 : Cond.static Lib.Math.max.name ∈ wsL_law) (w3 : Cond.initialized "java/lang/Math" ∈ wsL_law) (w4 : Cond.code Lib.Math.max.name Lib.Math.max.code 2 (some .int) ∈ wsL_law) (hfr : 1 ≤ M.2.2.2.2.1) (hlo : (st.map fun v => v.category).sum + 13 ≤ M.2.2.2.2.2.1) (hc : cu ≤ M.2.2.2.2.2.2.1) (hs : su ≤ M.2.2.2.2.2.2.2) (kk : AW md M (pc + 3) lv (.int (if x < y then y else x) :: st) σ cu su r σ') : AW md M pc lv (.int y :: .int x :: st) σ cu su r σ' := by
  intro p l e s m args below meth c0 Z H locs ls X hl hh
  have hts := X.2.2.2.2.2.1
  exact va_mmax X.1 X.2.1 (X.2.2.2.1.trans hl.1.symm) X.2.2.2.2.1 (hts _ w1) (hts _ w2) (hts _ w3) (hts _ w4) hfr (by rw [aCat]; exact hlo) hc hs hd (kk p l e s m args below meth c0 Z H locs ls X hl hh)
theorem w_abs {ix : Nat} {x : Int32} (hd : decode M.2.1 pc = .ok (.invokestatic ix, 3)) (w1 : Cond.methodLink M.1.cls ix Lib.Math.abs.name ∈ wsL_law) (w2 : Cond.static Lib.Math.abs.name ∈ wsL_law) (w3 : Cond.initialized "java/lang/Math" ∈ wsL_law) (w4 : Cond.code Lib.Math.abs.name Lib.Math.abs.code 1 (some .int) ∈ wsL_law) (hfr : 1 ≤ M.2.2.2.2.1) (hlo : (st.map fun v => v.category).sum + 13 ≤ M.2.2.2.2.2.1) (hc : cu ≤ M.2.2.2.2.2.2.1) (hs : su ≤ M.2.2.2.2.2.2.2) (kk : AW md M (pc + 3) lv (.int (if 0 ≤ x then x else 0 - x) :: st) σ cu su r σ') : AW md M pc lv (.int x :: st) σ cu su r σ' := by
  intro p l e s m args below meth c0 Z H locs ls X hl hh
  have hts := X.2.2.2.2.2.1
  exact va_mabs X.1 X.2.1 (X.2.2.2.1.trans hl.1.symm) X.2.2.2.2.1 (hts _ w1) (hts _ w2) (hts _ w3) (hts _ w4) hfr (by rw [aCat]; exact hlo) hc hs hd (kk p l e s m args below meth c0 Z H locs ls X hl hh)
end AWN
