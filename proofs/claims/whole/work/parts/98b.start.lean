theorem cl_RL_7_0 : aCl false RL 7 11 11 := ⟨RX11, TX11, tyX11, rfl, wI_X11, tyX11_ok, by decide, rfl, wd_1_0, wd_1_1, wd_1_2, by decide +kernel⟩
theorem cl_RL_10_0 : aCl false RL 10 12 47 := ⟨RX12, TX12, tyX12, rfl, wI_X12, tyX12_ok, by decide, rfl, wd_1_3, wd_1_4, wd_1_5, by decide +kernel⟩
theorem st0_H {Z : aZ} {s : State} (hZ : Z.1 = s.heap.size) : aH false Z st0 s s.heap [] := by
  have hn : ∀ (k : Nat) (q : Nat × va_E), (aWs false Z st0)[k]? = some q → False := fun k q h => by
    have h := (List.getElem?_eq_some_iff.mp h).1
    exact absurd h (by simp [aWs, gN, st0])
  exact ⟨hZ.symm, fun h => (by cases h), fun k q h => (hn k q h).elim, ⟨fun i j p q h => (hn i p h).elim, fun k q h => (hn k q h).elim⟩, va_S.rf⟩
set_option maxHeartbeats 4000000 in
set_option maxRecDepth 100000 in
/-- THE LAW, from its entry -/
theorem whole_start {p : Program} {e : Env} {s : State} {m : MethodId} {below : List Frame} {meth : Method} {c : Code} (l : Launch) {b L : Nat} {xs : Nat → Int32} (hL : L ≤ 3584) (C0 : lw_At p s m meth c b L xs) : W p l e room_1 s m #[Value.ref b] below meth c s.heap [] 0 0 (lw_Z below #[Value.ref b] s) (entryFrame m ([Value.ref b] : List Value).toArray 4) := by
  obtain ⟨hx, hb, hr, hml, hown, hts, hX, hbl, hlocks, hgv⟩ := C0
  obtain ⟨Z, hZ, hK, hN, hS⟩ := lw_world hts hgv
  obtain ⟨σB, σC, eB, nB, eC, hC⟩ := st_first
  have hbA : ¬ aA Z b := by
    show ¬ Z.1 ≤ b
    omega
  have X : ∀ md, aF md (mL meth.name) p s m #[Value.ref b] meth c Z := fun md => ⟨hx, hb, hr, hml, hown, fun w hw => hts w (wsL_law_in w hw), hlocks, rfl, Nat.le_of_eq hZ, hK, hN, hS⟩
  have G : aG p s m meth c Z b L xs := ⟨X true, hbA, hX, hbl, hZ⟩
  have hl := lv_entry ([.ref b]) (n := 4) (Nat.le_of_ble_eq_true rfl)
  rw [lg_entry_eq]
  generalize (lg_sl ([.ref b]) ++ List.replicate (4 - (lg_sl ([.ref b])).length) Slot.unset).toArray = ls at hl ⊢
  have hl : lv_has ls 4 [(0, .ref b)] := hl
  show W p l e (aRm (mL meth.name)) s m #[Value.ref b] below meth c s.heap [] 0 0 (lw_Z below #[Value.ref b] s) (F0 m 0 ls [])
  refine g_new (M := mL meth.name) (X false) (st0_H hZ) dL_0 cl_RL_7_0 (by decide) (Nat.le_of_ble_eq_true rfl) (Nat.le_of_ble_eq_true rfl) (fun H1 h1 => ?_)
  refine lv_dup hx hb dL_3 rfl ?_
  refine g_callI (M := mL meth.name) (bb := 0) (X false) hl.1 h1 (c_X11_init_0 (sN st0) ((), σB) eB) dL_4 kd_X11_init_0 rfl rfl wd_1_7 wd_1_8 ⟨Nat.le_of_ble_eq_true rfl, Nat.le_of_ble_eq_true rfl, Nat.le_of_ble_eq_true rfl, Nat.le_of_ble_eq_true rfl⟩ (Nat.le_of_ble_eq_true rfl) (fun H2 locs2 h2 => ?_)
  refine lv_astore_n (lv' := [(1, .ref (Z.1 + 0)), (0, .ref b)]) hx hb dL_7 rfl hl (by decide) rfl (fun ls hl => ?_)
  refine g_new (M := mL meth.name) (X false) h2 dL_8 cl_RL_10_0 (by rw [nB]; decide) (Nat.le_of_ble_eq_true rfl) (Nat.le_of_ble_eq_true rfl) (fun H3 h3 => ?_)
  rw [nB]
  refine lv_dup hx hb dL_11 rfl ?_
  refine g_callI (M := mL meth.name) (bb := 57) (X false) hl.1 h3 (c_X12_init_0 (sN σB) ((), σC) eC) dL_12 kd_X12_init_0 rfl rfl wd_8_4 wd_8_5 ⟨Nat.le_of_ble_eq_true rfl, Nat.le_of_ble_eq_true rfl, Nat.le_of_ble_eq_true rfl, Nat.le_of_ble_eq_true rfl⟩ (Nat.le_of_ble_eq_true rfl) (fun H4 locs4 h4 => ?_)
  refine lv_astore_n (lv' := [(2, .ref (Z.1 + 57)), (1, .ref (Z.1 + 0)), (0, .ref b)]) hx hb dL_15 rfl hl (by decide) rfl (fun ls hl => ?_)
  refine lv_iconst (v := 0) hx hb dL_16 rfl ?_
  refine lv_istore_n (lv' := [(3, .int 0), (2, .ref (Z.1 + 57)), (1, .ref (Z.1 + 0)), (0, .ref b)]) hx hb dL_17 rfl hl (by decide) rfl (fun ls hl => ?_)
  have hend := law_loop (b := b) (xs := xs) hL (L + 1) 0 σC 84 15161 (Nat.zero_le L) (by omega) hC.inv (by omega) (by omega) p l e s m below meth c Z H4 locs4 ls G (by rw [nI_0]; exact lv_sub hl [3, 2, 1, 0] rfl) (aH_flip hC h4)
  exact hend
