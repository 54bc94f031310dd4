theorem wd_1_1 : Cond.instantiable RX11 11 ∈ wsL_law := wI_r1 _ (List.mem_of_getElem? (i := 1) rfl)
theorem wd_1_4 : Cond.instantiable RX12 47 ∈ wsL_law := wI_r1 _ (List.mem_of_getElem? (i := 4) rfl)
theorem wt_89 : Cond.arrayClass .int ∈ lw_tbl := List.mem_append_right _ (List.mem_of_getElem? (i := 89) (by decide +kernel))
theorem wt_90 : Cond.arrayClass .byte ∈ lw_tbl := List.mem_append_right _ (List.mem_of_getElem? (i := 90) (by decide +kernel))
theorem wt_234 : Cond.arrayClass .long ∈ lw_tbl := List.mem_append_right _ (List.mem_of_getElem? (i := 234) (by decide +kernel))
theorem wt_31 : Cond.arrayOver (.object RX9) ∈ lw_tbl := List.mem_append_right _ (List.mem_of_getElem? (i := 31) (by decide +kernel))
theorem wt_39 : Cond.arrayOver (.object RX4) ∈ lw_tbl := List.mem_append_right _ (List.mem_of_getElem? (i := 39) (by decide +kernel))
theorem wt_18 : Cond.initialized "java/lang/String" ∈ lw_tbl := List.mem_append_right _ (List.mem_of_getElem? (i := 18) (by decide +kernel))
theorem wt_20 : Cond.initialized "jdk/internal/util/Preconditions" ∈ lw_tbl := List.mem_append_right _ (List.mem_of_getElem? (i := 20) (by decide +kernel))
theorem wt_664 : Cond.laysStatic "java/lang/String" "COMPACT_STRINGS" "Z" ∈ lw_tbl := List.mem_append_right _ (List.mem_of_getElem? (i := 664) (by decide +kernel))
theorem wt_680 : Cond.laysStatic "jdk/internal/util/Preconditions" "SIOOBE_FORMATTER" "Ljava/util/function/BiFunction;" ∈ lw_tbl := List.mem_append_right _ (List.mem_of_getElem? (i := 680) (by decide +kernel))
theorem wt_654 : Cond.stringRef RX10 65 aTx ∈ lw_tbl := List.mem_append_right _ (List.mem_of_getElem? (i := 654) (by decide +kernel))
theorem wt_34 : Cond.methodLinkNest RX11 17 yX3_init RX11 ∈ lw_tbl := List.mem_append_right _ (List.mem_of_getElem? (i := 34) (by decide +kernel))
theorem wt_62 : Cond.methodLinkNest RX11 24 yX10_init RX11 ∈ lw_tbl := List.mem_append_right _ (List.mem_of_getElem? (i := 62) (by decide +kernel))
theorem wt_169 : Cond.methodLinkNest RX2 30 yX7_init RX11 ∈ lw_tbl := List.mem_append_right _ (List.mem_of_getElem? (i := 169) (by decide +kernel))
theorem wt_288 : Cond.methodLinkNest RX11 58 yX1_init RX11 ∈ lw_tbl := List.mem_append_right _ (List.mem_of_getElem? (i := 288) (by decide +kernel))
theorem wt_309 : Cond.methodLinkNest RX11 65 yX0_init RX11 ∈ lw_tbl := List.mem_append_right _ (List.mem_of_getElem? (i := 309) (by decide +kernel))
theorem wt_334 : Cond.methodLinkNest RX11 84 yX9_init RX11 ∈ lw_tbl := List.mem_append_right _ (List.mem_of_getElem? (i := 334) (by decide +kernel))
theorem wt_451 : Cond.methodLinkNest RX3 27 yX11_within RX11 ∈ lw_tbl := List.mem_append_right _ (List.mem_of_getElem? (i := 451) (by decide +kernel))
theorem wt_716 : Cond.methodLinkNest RX6 60 yX11_within RX11 ∈ lw_tbl := List.mem_append_right _ (List.mem_of_getElem? (i := 716) (by decide +kernel))
theorem wt_784 : Cond.methodLinkNest RX2 74 yX11_within RX11 ∈ lw_tbl := List.mem_append_right _ (List.mem_of_getElem? (i := 784) (by decide +kernel))
theorem wt_793 : Cond.methodLinkNest RX8 41 yX11_within RX11 ∈ lw_tbl := List.mem_append_right _ (List.mem_of_getElem? (i := 793) (by decide +kernel))
theorem wt_nest : ∀ q ∈ aNest, Cond.methodLinkNest q.1 q.2.1 q.2.2.1 q.2.2.2 ∈ lw_tbl := List.forall_mem_cons.mpr ⟨wt_34, List.forall_mem_cons.mpr ⟨wt_62, List.forall_mem_cons.mpr ⟨wt_169, List.forall_mem_cons.mpr ⟨wt_288, List.forall_mem_cons.mpr ⟨wt_309, List.forall_mem_cons.mpr ⟨wt_334, List.forall_mem_cons.mpr ⟨wt_451, List.forall_mem_cons.mpr ⟨wt_716, List.forall_mem_cons.mpr ⟨wt_784, List.forall_mem_cons.mpr ⟨wt_793, fun _ h => absurd h List.not_mem_nil⟩⟩⟩⟩⟩⟩⟩⟩⟩⟩
theorem arr_prim {s : State} {args : Array Value} {ty : FieldType} (hne : ∀ C, ty ≠ .object C) (h : (Cond.arrayClass ty).before args s = true) : ∃ cA : ClassId, ArrOfT s cA ty ∧ va_RA s cA ty := by
  obtain ⟨c, k, comp, h1, h2, h3⟩ := Cond.arrayClass_spec h
  refine ⟨c, fun n z => ⟨fun k h => (by cases h), k, h2, comp, h3⟩, ?_⟩
  cases ty with
  | object C => exact absurd rfl (hne C)
  | _ => exact h1
theorem arr_obj {s : State} {args : Array Value} {C : String} (h : (Cond.arrayOver (.object C)).before args s = true) : ∃ cA : ClassId, ArrOfT s cA (.object C) ∧ va_RA s cA (.object C) := by
  obtain ⟨comp, c, k, h1, -, h2, h3, h4⟩ := Cond.arrayOver_spec h
  exact ⟨c, fun n z => ⟨fun k h => (by cases h), k, h2, comp, h3⟩, k, comp, h2, h3, h1, h4⟩
theorem wn_ex : Cond.exactly (Term.string RX10 65) "java/lang/String" ∈ flatC (Jvm.Cond.and given_1 narrow_1) := by decide +kernel
theorem wn_co : Cond.eq (.field (Term.string RX10 65) "java/lang/String" "coder" "B") (.int 0) ∈ flatC (Jvm.Cond.and given_1 narrow_1) := by decide +kernel
theorem wn_ar : Cond.arrayOf (Term.field (Term.string RX10 65) "java/lang/String" "value" "[B") .byte ∈ flatC (Jvm.Cond.and given_1 narrow_1) := by decide +kernel
theorem wn_le : Cond.eq (.length (Term.field (Term.string RX10 65) "java/lang/String" "value" "[B")) (.int 119) ∈ flatC (Jvm.Cond.and given_1 narrow_1) := by decide +kernel
theorem wn_el : ∀ j, j < 119 → Cond.eq (.elem (Term.field (Term.string RX10 65) "java/lang/String" "value" "[B") (.int (Int32.ofNat j))) (.int (aTxB.getD j 0)) ∈ flatC (Jvm.Cond.and given_1 narrow_1) := by decide +kernel
theorem wn_cs : Cond.eq (Term.static "java/lang/String" "COMPACT_STRINGS" "Z") (.int 1) ∈ flatC (Jvm.Cond.and given_1 narrow_1) := by decide +kernel
theorem wn_sq : Cond.isRef (Term.static "jdk/internal/util/Preconditions" "SIOOBE_FORMATTER" "Ljava/util/function/BiFunction;") ∈ flatC (Jvm.Cond.and given_1 narrow_1) := by decide +kernel
set_option maxHeartbeats 2000000 in
theorem lw_world {s : State} {b : Nat} (hts : ∀ w ∈ lw_tbl, w.before #[Value.ref b] s = true) (hgv : (Jvm.Cond.and given_1 narrow_1).before #[Value.ref b] s = true) : ∃ Z : aZ, Z.1 = s.heap.size ∧ va_K Z.2.1 vwCl (aTys Z) s ∧ aNs s ∧ aStr Z s s.heap := by
  have hf := flat_of_before _ hgv
  obtain ⟨c0, i0, k0⟩ := u_known (C := RX0) (T := TX0) (N := 5) (n := 5) hts (fun w hw => (wG_X0 w hw).1) (hts _ (wsL_law_in _ wd_2_16))
  obtain ⟨c1, i1, k1⟩ := u_known (C := RX1) (T := TX1) (N := 4) (n := 4) hts (fun w hw => (wG_X1 w hw).1) (hts _ (wsL_law_in _ wd_2_12))
  obtain ⟨c2, i2, k2⟩ := u_known (C := RX2) (T := TX2) (N := 8) (n := 8) hts (fun w hw => (wG_X2 w hw).1) (hts _ (wsL_law_in _ wd_2_4))
  obtain ⟨c3, i3, k3⟩ := u_known (C := RX3) (T := TX3) (N := 4) (n := 4) hts (fun w hw => (wG_X3 w hw).1) (hts _ (wsL_law_in _ wd_1_16))
  obtain ⟨c4, i4, k4⟩ := u_known (C := RX4) (T := TX4) (N := 8) (n := 8) hts (fun w hw => (wG_X4 w hw).1) (hts _ (wsL_law_in _ wd_13_17))
  obtain ⟨c5, i5, k5⟩ := u_known (C := RX5) (T := TX5) (N := 13) (n := 13) hts (fun w hw => (wG_X5 w hw).1) (hts _ (wsL_law_in _ wd_2_8))
  obtain ⟨c6, i6, k6⟩ := u_known (C := RX6) (T := TX6) (N := 7) (n := 7) hts (fun w hw => (wG_X6 w hw).1) (hts _ (wsL_law_in _ wd_2_0))
  obtain ⟨c7, i7, k7⟩ := u_known (C := RX7) (T := TX7) (N := 7) (n := 7) hts (fun w hw => (wG_X7 w hw).1) (hts _ (wsL_law_in _ wd_4_19))
  obtain ⟨c8, i8, k8⟩ := u_known (C := RX8) (T := TX8) (N := 7) (n := 7) hts (fun w hw => (wG_X8 w hw).1) (hts _ (wsL_law_in _ wd_2_20))
  obtain ⟨c9, i9, k9⟩ := u_known (C := RX9) (T := TX9) (N := 4) (n := 4) hts (fun w hw => (wG_X9 w hw).1) (hts _ (wsL_law_in _ wd_3_1))
  obtain ⟨c10, i10, k10⟩ := u_known (C := RX10) (T := TX10) (N := 6) (n := 6) hts (fun w hw => (wG_X10 w hw).1) (hts _ (wsL_law_in _ wd_1_20))
  obtain ⟨c11, i11, k11⟩ := u_known (C := RX11) (T := TX11) (N := 11) (n := 11) hts (fun w hw => (wG_X11 w hw).1) (hts _ (wsL_law_in _ wd_1_1))
  obtain ⟨c12, i12, k12⟩ := u_known (C := RX12) (T := TX12) (N := 47) (n := 47) hts (fun w hw => (wG_X12 w hw).1) (hts _ (wsL_law_in _ wd_1_4))
  obtain ⟨a1, ha1⟩ := arr_prim (ty := .int) (fun C h => by cases h) (hts _ wt_89)
  obtain ⟨a2, ha2⟩ := arr_prim (ty := .byte) (fun C h => by cases h) (hts _ wt_90)
  obtain ⟨a3, ha3⟩ := arr_prim (ty := .long) (fun C h => by cases h) (hts _ wt_234)
  obtain ⟨a4, ha4⟩ := arr_obj (C := RX9) (hts _ wt_31)
  obtain ⟨a5, ha5⟩ := arr_obj (C := RX4) (hts _ wt_39)
  have hA : ∀ a : Nat, a < s.heap.size → ¬ (fun q : Nat => s.heap.size ≤ q) a := fun a h => Nat.not_le.mpr h
  obtain ⟨adK, adV, hS, hE⟩ := vk_Sof (args := #[Value.ref b]) (s := s) (N := 1) (tm := fun _ => Term.string RX10 65) (len := [119]) (byt := [aTxB]) (A := fun q => s.heap.size ≤ q) (fun i hi => by rw [show i = 0 by omega]; decide) (fun i _ => hf _ wn_ex) (fun i _ => hf _ wn_co) (fun i _ => hf _ wn_ar) (fun i hi => by rw [show i = 0 by omega]; exact hf _ wn_le) (fun i hi j hj => by rw [show i = 0 by omega] at hj ⊢; exact hf _ (wn_el j hj)) (fun i j hi hj hne => absurd (by omega) hne) hA
  refine ⟨(s.heap.size, (fun k => match k with | 0 => c0 | 1 => c1 | 2 => c2 | 3 => c3 | 4 => c4 | 5 => c5 | 6 => c6 | 7 => c7 | 8 => c8 | 9 => c9 | 10 => c10 | 11 => c11 | _ => c12, fun k => match k with | 0 => i0 | 1 => i1 | 2 => i2 | 3 => i3 | 4 => i4 | 5 => i5 | 6 => i6 | 7 => i7 | 8 => i8 | 9 => i9 | 10 => i10 | 11 => i11 | _ => i12), (a1, a2, a3, a4, a5), adK 0, adV 0), rfl, ⟨?_, ?_⟩, ⟨?_, ?_, ?_⟩, ?_, ?_, ?_, ?_⟩
  · intro c q hq
    match c, hq with
    | 0, hq => cases hq; exact k0
    | 1, hq => cases hq; exact k1
    | 2, hq => cases hq; exact k2
    | 3, hq => cases hq; exact k3
    | 4, hq => cases hq; exact k4
    | 5, hq => cases hq; exact k5
    | 6, hq => cases hq; exact k6
    | 7, hq => cases hq; exact k7
    | 8, hq => cases hq; exact k8
    | 9, hq => cases hq; exact k9
    | 10, hq => cases hq; exact k10
    | 11, hq => cases hq; exact k11
    | 12, hq => cases hq; exact k12
    | n + 13, hq => exact absurd hq (by simp [vwCl])
  · intro k q hq
    match k, hq with
    | 0, hq => cases hq; exact ha1
    | 1, hq => cases hq; exact ha2
    | 2, hq => cases hq; exact ha3
    | 3, hq => cases hq; exact ha4
    | 4, hq => cases hq; exact ha5
    | n + 5, hq => exact absurd hq (by simp [aTys])
  · intro q hq
    exact va_Nw.of rfl (hts _ (wt_nest q hq))
  · exact va_AO.of (hts _ wt_31)
  · exact va_AO.of (hts _ wt_39)
  · exact vk_R.of (hts _ wt_654) (hE 0 (by decide))
  · refine ⟨fun i hi => ?_, fun i j hi hj _ => by omega⟩
    have e : i = 0 := by omega
    subst e
    exact hS.1 0 hi
  · exact va_Zof (hts _ wt_664) (hts _ wt_18) (va_eqt (hf _ wn_cs)) hA
  · exact va_Zqof (hts _ wt_680) (hts _ wt_20) (hf _ wn_sq) hA
