/-! ===== the law's own walk: rows ===== -/
abbrev mL (nm : String) : aM := (⟨RL, nm, ""⟩, code, 4, ret, 2048, 84000, 600000, 7302250)
def aG (p : Program) (s : State) (m : MethodId) (meth : Method) (c : Code) (Z : aZ) (b L : Nat) (xs : Nat → Int32) : Prop := aF true (mL meth.name) p s m #[Value.ref b] meth c Z ∧ ¬ aA Z b ∧ va_X b L xs s s.heap ∧ b < s.heap.size ∧ Z.1 = s.heap.size
abbrev lLv (Z : aZ) (b : Nat) (i : Int32) : List (Nat × Value) := [(0, .ref b), (1, .ref (Z.1 + 0)), (2, .ref (Z.1 + 57)), (3, .int i)]
/-- the walk of the law's loop: at pc, with i, this stack and heap, so many cells and slots made, the law comes to its end with true -/
def LW (pc : Nat) (i : Int32) (st : List Value) (σ : aSt) (cu su : Nat) (b L : Nat) (xs : Nat → Int32) : Prop :=
  ∀ (p : Program) (l : Launch) (e : Env) (s : State) (m : MethodId) (below : List Frame) (meth : Method) (c : Code) (Z : aZ) (H : Heap) (locs : List Loc) (ls : Array Slot),
    aG p s m meth c Z b L xs → lv_has ls 4 (lLv Z b i) → aH true Z σ s H locs →
    W p l e room_1 s m #[Value.ref b] below meth c H locs cu su (lw_Z below #[Value.ref b] s) (F0 m pc ls (st.map (aTr Z)))
abbrev dArg (pc : Nat) (k : Int) : Prop := decode code pc = .ok (.aload_n 0, 1) ∧ decode code (pc + 1) = .ok (.iload_n 3, 1) ∧ decode code (pc + 2) = .ok (.iconst k, 1) ∧ decode code (pc + 3) = .ok (.iadd, 1) ∧ decode code (pc + 4) = .ok (.iaload, 1)
abbrev dArg6 (pc : Nat) : Prop := decode code pc = .ok (.aload_n 0, 1) ∧ decode code (pc + 1) = .ok (.iload_n 3, 1) ∧ decode code (pc + 2) = .ok (.bipush 6, 2) ∧ decode code (pc + 4) = .ok (.iadd, 1) ∧ decode code (pc + 5) = .ok (.iaload, 1)
theorem lg_cmp_self (x : Int64) : lg_cmp x x = 0 := by
  simp [lg_cmp]
section LWR
variable {pc : Nat} {i : Int32} {st : List Value} {σ σ1 : aSt} {cu su b L : Nat} {xs : Nat → Int32}
theorem l_x (hd : decode code pc = .ok (.aload_n 1, 1)) (k : LW (pc + 1) i (va_rf (some 0) :: st) σ cu su b L xs) : LW pc i st σ cu su b L xs := fun p l e s m below meth c Z H locs ls X hl hh => lv_aload_n X.1.1 X.1.2.1 hd rfl (lv_at hl 1 rfl) (k p l e s m below meth c Z H locs ls X hl hh)
theorem l_m (hd : decode code pc = .ok (.aload_n 2, 1)) (k : LW (pc + 1) i (va_rf (some 57) :: st) σ cu su b L xs) : LW pc i st σ cu su b L xs := fun p l e s m below meth c Z H locs ls X hl hh => lv_aload_n X.1.1 X.1.2.1 hd rfl (lv_at hl 2 rfl) (k p l e s m below meth c Z H locs ls X hl hh)
theorem l_arg {n : Int} {kv : Int32} (hd : dArg pc n) (hk : Int32.ofInt n = kv) (hin : vp_in (i + kv) L) (k : LW (pc + 5) i (.int (xs (i + kv).toNatClampNeg) :: st) σ cu su b L xs) : LW pc i st σ cu su b L xs := fun p l e s m below meth c Z H locs ls X hl hh => lv_aload_n X.1.1 X.1.2.1 hd.1 rfl (lv_at hl 0 rfl) (lv_iload_n X.1.1 X.1.2.1 hd.2.1 rfl (lv_at hl 3 rfl) (lv_iconst X.1.1 X.1.2.1 hd.2.2.1 hk (lv_iadd X.1.1 X.1.2.1 hd.2.2.2.1 (va_sld X.1.1 X.1.2.1 X.2.2.1 X.2.2.2.1 X.2.1 hh.2.2.2.2 hin hd.2.2.2.2 (k p l e s m below meth c Z H locs ls X hl hh)))))
theorem l_arg6 {kv : Int32} (hd : dArg6 pc) (hk : (Int8.ofInt 6).toInt32 = kv) (hin : vp_in (i + kv) L) (k : LW (pc + 6) i (.int (xs (i + kv).toNatClampNeg) :: st) σ cu su b L xs) : LW pc i st σ cu su b L xs := fun p l e s m below meth c Z H locs ls X hl hh => lv_aload_n X.1.1 X.1.2.1 hd.1 rfl (lv_at hl 0 rfl) (lv_iload_n X.1.1 X.1.2.1 hd.2.1 rfl (lv_at hl 3 rfl) (lv_bipush X.1.1 X.1.2.1 hd.2.2.1 hk (lv_iadd X.1.1 X.1.2.1 hd.2.2.2.1 (va_sld X.1.1 X.1.2.1 X.2.2.1 X.2.2.2.1 X.2.1 hh.2.2.2.2 hin hd.2.2.2.2 (k p l e s m below meth c Z H locs ls X hl hh)))))
theorem l_i2l {x : Int32} (hd : decode code pc = .ok (.i2l, 1)) (k : LW (pc + 1) i (.long (x.toInt64) :: st) σ cu su b L xs) : LW pc i (.int x :: st) σ cu su b L xs := fun p l e s m below meth c Z H locs ls X hl hh => lv_i2l X.1.1 X.1.2.1 hd rfl (k p l e s m below meth c Z H locs ls X hl hh)
theorem l_bip {n : Int} {v : Int32} (hd : decode code pc = .ok (.bipush n, 2)) (hv : (Int8.ofInt n).toInt32 = v) (k : LW (pc + 2) i (.int v :: st) σ cu su b L xs) : LW pc i st σ cu su b L xs := fun p l e s m below meth c Z H locs ls X hl hh => lv_bipush X.1.1 X.1.2.1 hd hv (k p l e s m below meth c Z H locs ls X hl hh)
theorem l_lshl {x : Int64} {y : Int32} (hd : decode code pc = .ok (.lshl, 1)) (k : LW (pc + 1) i (.long (x <<< (y.toInt64 &&& 63)) :: st) σ cu su b L xs) : LW pc i (.int y :: .long x :: st) σ cu su b L xs := fun p l e s m below meth c Z H locs ls X hl hh => lv_lshl X.1.1 X.1.2.1 hd rfl (k p l e s m below meth c Z H locs ls X hl hh)
theorem l_ldc2 {ix : Nat} {v : Int64} (hd : decode code pc = .ok (.ldc2_w ix, 3)) (hw : Cond.constantLong RL ix v ∈ wsL_law) (k : LW (pc + 3) i (.long v :: st) σ cu su b L xs) : LW pc i st σ cu su b L xs := fun p l e s m below meth c Z H locs ls X hl hh => lv_ldc2 X.1.1 X.1.2.1 X.1.2.2.2.2.1 (X.1.2.2.2.2.2.1 _ hw) hd (k p l e s m below meth c Z H locs ls X hl hh)
theorem l_land {x y : Int64} (hd : decode code pc = .ok (.land, 1)) (k : LW (pc + 1) i (.long (x &&& y) :: st) σ cu su b L xs) : LW pc i (.long y :: .long x :: st) σ cu su b L xs := fun p l e s m below meth c Z H locs ls X hl hh => lv_land X.1.1 X.1.2.1 hd (k p l e s m below meth c Z H locs ls X hl hh)
theorem l_lor {x y : Int64} (hd : decode code pc = .ok (.lor, 1)) (k : LW (pc + 1) i (.long (x ||| y) :: st) σ cu su b L xs) : LW pc i (.long y :: .long x :: st) σ cu su b L xs := fun p l e s m below meth c Z H locs ls X hl hh => lv_lor X.1.1 X.1.2.1 hd (k p l e s m below meth c Z H locs ls X hl hh)
theorem l_eq {x : Int32} {off : Int} (tgt : Nat) (hd : decode code pc = .ok (.if_icmp .eq off, 3)) (ht : (pc : Int) + off = (tgt : Int)) (k : LW tgt i st σ cu su b L xs) : LW pc i (.int x :: .int x :: st) σ cu su b L xs := fun p l e s m below meth c Z H locs ls X hl hh => lv_icmp_eq X.1.1 X.1.2.1 hd ht (fun _ => k p l e s m below meth c Z H locs ls X hl hh) (fun h => absurd rfl h)
theorem l_leq {x : Int64} {off : Int} (tgt : Nat) (hd0 : decode code pc = .ok (.lcmp, 1)) (hd : decode code (pc + 1) = .ok (.ifCond .eq off, 3)) (ht : ((pc + 1 : Nat) : Int) + off = (tgt : Int)) (k : LW tgt i st σ cu su b L xs) : LW pc i (.long x :: .long x :: st) σ cu su b L xs := fun p l e s m below meth c Z H locs ls X hl hh => W.lcmp X.1.1 X.1.2.1 hd0 (lv_if_eq X.1.1 X.1.2.1 hd ht (fun _ => k p l e s m below meth c Z H locs ls X hl hh) (fun h => absurd (lg_cmp_self x) h))
theorem l_widen {cu' su' : Nat} (h1 : cu ≤ cu') (h2 : su ≤ su') (k : LW pc i st σ cu' su' b L xs) : LW pc i st σ cu su b L xs := fun p l e s m below meth c Z H locs ls X hl hh => W.widen h1 h2 (k p l e s m below meth c Z H locs ls X hl hh)
theorem l_callV {M2 : aM} {ix n bb ci : Nat} {stk av : List Value} {rv : Option Value} (hM : AM true M2 (va_rf (some bb) :: av) σ rv σ1) (hd : decode code pc = .ok (.invokevirtual ix, 3)) (hk : aKd M2 n) (w1 : Cond.methodLink RL ix M2.1 ∈ wsL_law) (w2 : Cond.instanceMethod M2.1 ∈ wsL_law) (w3 : Cond.selects M2.1.cls M2.1 M2.1 ∈ wsL_law) (hn : av.length = n) (hst : stk = av.reverse ++ va_rf (some bb) :: st) (hr : aSh bb = ci ∧ bb < 84) (hci : (vwCl[ci]?.map (·.1)) = some M2.1.cls) (hfit : M2.2.2.2.2.1 + 1 ≤ 2048 ∧ 8 + (M2.2.2.1 + 11) + M2.2.2.2.2.2.1 ≤ 84000 ∧ cu + M2.2.2.2.2.2.2.1 ≤ 600000 ∧ su + M2.2.2.2.2.2.2.2 ≤ 7302250) (hcat : (st.map fun v => v.category).sum ≤ 8) (kk : LW (pc + 3) i (rv.toList ++ st) σ1 (cu + M2.2.2.2.2.2.2.1) (su + M2.2.2.2.2.2.2.2) b L xs) : LW pc i stk σ cu su b L xs := by
  intro p l e s m below meth c0 Z H locs ls X0 hl hh
  have X := X0.1
  subst hst
  have hts := X.2.2.2.2.2.1
  obtain ⟨k1, k2, k3, k4, k5⟩ := hk
  obtain ⟨f1, f2, f3, f4⟩ := hfit
  obtain ⟨q, hq⟩ : ∃ q, vwCl[ci]? = some q := by
    cases h : vwCl[ci]? with
    | none => rw [h] at hci; cases hci
    | some q => exact ⟨q, rfl⟩
  have hqn : q.1 = M2.1.cls := by rw [hq] at hci; exact Option.some.inj hci
  have hci13 : ci < 13 := (List.getElem?_eq_some_iff.mp hq).1
  have he : (aWs true Z σ)[bb]? = some (Z.1 + bb, .inr (ci, (List.range (aNf ci)).map (aFv true Z σ ci bb))) := by rw [aWs_get (Nat.lt_of_lt_of_le hr.2 (hh.2.1 rfl)), aCell_obj hr.1 hci13]
  have hrec := va_recv X.2.2.2.2.2.2.2.2.2.1 hh.2.2.1 hq he
  rw [hqn] at hrec
  refine aw_go (R := room_1) (va_runV (R := room_1) (As := av.map (aTr Z)) (b := Z.1 + bb) (rest := st.map (aTr Z)) (C := M2.1.cls) (n := n) ⟨X.1, X.2.1, X.2.2.2.1, X.2.2.2.2.1, hts⟩ (hM l Z) ⟨⟨rfl, rfl, f1, f2, pay_in hts (aGood k1), List.mem_cons_self, hts _ k1, hts _ k2, ⟨k3, k4⟩, fun sig h => ?_, hts _ w1⟩, hts _ w2, hts _ w3⟩ ⟨aWo.blind, hrec, fun U hU hW => ⟨rfl, aWo.at X hh hU hW⟩⟩ rfl (by rw [List.length_map]; exact hn) hl.1 ?_ (lv_room (by rw [aCat]; exact hcat)) hd ⟨f3, f4⟩) hh.2.2.2.2 (fun H1 locs1 hh1 => ?_)
  · rw [h] at k5
    exact (Option.some.inj k5).symm
  · show (av.reverse ++ va_rf (some bb) :: st).map (aTr Z) = _
    rw [List.map_append, List.map_reverse]
    rfl
  · rw [← aRet]
    exact kk p l e s m below meth c0 Z H1 locs1 ls X0 hl hh1
end LWR
/-! the two rows that make an object, for any end -/
section GR
variable {md : Bool} {M : aM} {p : Program} {l : Launch} {e : Env} {s : State} {m : MethodId} {args : Array Value} {below : List Frame} {meth : Method} {c0 : Code} {Z : aZ} {H : Heap} {locs : List Loc} {ls : Array Slot} {pc : Nat} {st : List Value} {σ σ1 : aSt} {cu su : Nat} {Q : State → Prop}
theorem g_new {c ix N : Nat} (X : aF md M p s m args meth c0 Z) (hh : aH md Z σ s H locs) (hd : decode M.2.1 pc = .ok (.new ix, 3)) (hf : aCl md M.1.cls ix c N) (hs : aSh (gN σ) = c) (hc : cu + 1 ≤ M.2.2.2.2.2.2.1) (hsl : su + N ≤ M.2.2.2.2.2.2.2) (kk : ∀ H1 : Heap, aH md Z (sN σ) s H1 locs → W p l e (aRm M) s m args below meth c0 H1 locs (cu + 1) (su + N) Q (F0 m (pc + 3) ls (.ref (Z.1 + gN σ) :: st))) : W p l e (aRm M) s m args below meth c0 H locs cu su Q (F0 m pc ls st) := by
  obtain ⟨hx, hb, -, -, hown, hts, -, -, hb0, hK, -, -⟩ := X
  obtain ⟨C, T, tys, hcl, hin, hty, hc13, hN, w1, w2, w3, hdf⟩ := hf
  obtain ⟨z1, z2, z3, z4, z5⟩ := hh
  have hKn := hK.1 c _ hcl
  have hA : ∀ q, s.heap.size ≤ q → aA Z q := fun q h => Nat.le_trans hb0 h
  refine W.newcK hx hb hown (hts _ w1) (hts _ w2) (hts _ w3) rfl hd hc hsl hKn.2.1 rfl fun H1 kC hkC e1 s1 o1 => ?_
  have hkp : ∀ (k : Nat) (x : Nat × va_E), (aWs md Z σ)[k]? = some x → H1[x.1]? = H[x.1]? := fun k x hx => o1 x.1 ((z3 k x hx).lt)
  have hcell : aCell md Z (sN σ) (gN σ) = .inr (c, (List.range (aNf c)).map (aFv md Z (sN σ) c (gN σ))) := aCell_obj hs hc13
  have hw := aWs_push (md := md) (Z := Z) (σ := σ) (σ' := sN σ) rfl hcell (fun j hj => aOff_n hj)
  have hP1 : va_P Z.2.1 vwCl (aWs md Z (sN σ)) H1 := by
    rw [← hw]
    refine (z3.kept hkp).app (fun k x hx => ?_)
    have hz : k < 1 := (List.getElem?_eq_some_iff.mp hx).1
    rw [show k = 0 by omega] at hx
    cases hx
    rw [← z1]
    refine ⟨_, hcl, (u_born tys hts hin hKn hkC e1 hty).to ?_⟩
    intro j hj
    have hg : vp_V ((List.range (aNf c)).map (aFv md Z (sN σ) c (gN σ))) j = aFv md Z (sN σ) c (gN σ) j := by
      unfold vp_V
      rw [List.getD_eq_getElem?_getD, aFs_get (by rw [hN]; exact hj)]
      rfl
    rw [hg]
    rcases hdf j hj with ⟨h1, h2⟩ | ⟨h1, h2⟩ | ⟨h1, h2⟩
    · rw [aFv_i h1, h2, aNew_i]; rfl
    · rw [aFv_l h1, h2, aNew_l]; rfl
    · rw [aFv_q h1, h2, aNew_r]; rfl
  have hD1 : va_D (aA Z) (aWs md Z (sN σ)) := by
    rw [← hw]
    exact z4.push z3 z1.symm (hA _ (by rw [← z1]; exact z5.1))
  have hk1 := kk H1 ⟨by rw [s1, z1]; rfl, fun h => Nat.le_succ_of_le (z2 h), hP1, hD1, ⟨Nat.le_trans z5.1 (by omega), fun x h1 h2 => (o1 x (Nat.lt_of_lt_of_le h1 z5.1)).trans (z5.2.1 x h1 h2), z5.2.2⟩⟩
  rw [z1]
  exact hk1
theorem g_callI {M2 : aM} {ix bb : Nat} (X : aF md M p s m args meth c0 Z) (hl : ls.size = M.2.2.1) (hh : aH md Z σ s H locs) (hM : AM md M2 [va_rf (some bb)] σ none σ1) (hd : decode M.2.1 pc = .ok (.invokespecial ix, 3)) (hk : aKd M2 0) (hrn : M2.2.2.2.1 = none) (hy : M2.1.name = "<init>") (w1 : Cond.methodLink M.1.cls ix M2.1 ∈ wsL_law) (w2 : Cond.instanceMethod M2.1 ∈ wsL_law) (hfit : aFit M M2 cu su) (hcat : (st.map fun v => v.category).sum ≤ 8) (kk : ∀ (H1 : Heap) (locs1 : List Loc), aH md Z σ1 s H1 locs1 → W p l e (aRm M) s m args below meth c0 H1 locs1 (cu + M2.2.2.2.2.2.2.1) (su + M2.2.2.2.2.2.2.2) Q (F0 m (pc + 3) ls st)) : W p l e (aRm M) s m args below meth c0 H locs cu su Q (F0 m pc ls (.ref (Z.1 + bb) :: st)) := by
  have hts := X.2.2.2.2.2.1
  obtain ⟨k1, k2, k3, k4, k5⟩ := hk
  obtain ⟨f1, f2, f3, f4⟩ := hfit
  rw [hrn] at k1
  refine aw_go (rv := none) (va_runI (As := []) (b := Z.1 + bb) (rest := st) (n := 0) (bytes := M2.2.1) (maxL := M2.2.2.1) ⟨X.1, X.2.1, X.2.2.2.1, X.2.2.2.2.1, hts⟩ (hM l Z) ⟨⟨rfl, rfl, f1, f2, pay_in hts (aGood (by rw [hrn]; exact k1)), by unfold aWd; rw [hrn]; exact List.mem_cons_self, hts _ k1, hts _ k2, ⟨k3, k4⟩, fun sig h => ?_, hts _ w1⟩, hy, hts _ w2⟩ ⟨aWo.blind, fun U hU hW => ⟨rfl, aWo.at X hh hU hW⟩⟩ rfl rfl hl rfl (lv_room hcat) hd ⟨f3, f4⟩) hh.2.2.2.2 (fun H1 locs1 hh1 => ?_)
  · rw [h] at k5
    exact (Option.some.inj k5).symm
  · exact kk H1 locs1 hh1
end GR
