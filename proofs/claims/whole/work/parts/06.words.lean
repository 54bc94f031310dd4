/-! ===== small rows that the printed walks use ===== -/
def oC {α β : Type} (r : Option α) (n : β) (s : α → β) : β := match r with
  | none => n
  | some a => s a
theorem oC_none {α β : Type} (n : β) (s : α → β) : oC none n s = n := rfl
theorem oC_some {α β : Type} (a : α) (n : β) (s : α → β) : oC (some a) n s = s a := rfl
theorem e_grd {α : Type} {c : Prop} [Decidable c] {A : Option α} {o : α} (h : (if c then A else none) = some o) : c ∧ A = some o := by
  by_cases hc : c
  · rw [if_pos hc] at h; exact ⟨hc, h⟩
  · rw [if_neg hc] at h; cases h
theorem e_t {α : Type} {c : Prop} [Decidable c] {A B : Option α} {o : α} (hc : c) (h : (if c then A else B) = some o) : A = some o := by rw [if_pos hc] at h; exact h
theorem e_f {α : Type} {c : Prop} [Decidable c] {A B : Option α} {o : α} (hc : ¬ c) (h : (if c then A else B) = some o) : B = some o := by rw [if_neg hc] at h; exact h
theorem e_ite {α : Type} {c : Prop} [Decidable c] {A B : Option α} {o : α} (h : (if c then A else B) = some o) : (c ∧ A = some o) ∨ (¬ c ∧ B = some o) := by
  by_cases hc : c
  · rw [if_pos hc] at h; exact Or.inl ⟨hc, h⟩
  · rw [if_neg hc] at h; exact Or.inr ⟨hc, h⟩
theorem e_bind {α β : Type} {f : Option α} {k : α → Option β} {o : β} (h : f.bind k = some o) : ∃ q, f = some q ∧ k q = some o := by
  cases f with
  | none => cases h
  | some q => exact ⟨q, rfl, h⟩
theorem e_oC {α β : Type} {r : Option α} {N : Option β} {S : α → Option β} {o : β} (h : oC r N S = some o) : (r = none ∧ N = some o) ∨ (∃ a, r = some a ∧ S a = some o) := by
  cases r with
  | none => exact Or.inl ⟨rfl, h⟩
  | some a => exact Or.inr ⟨a, rfl, h⟩
theorem e_oS {α β : Type} {r : Option α} {S : α → Option β} {o : β} (h : oC r none S = some o) : ∃ a, r = some a ∧ S a = some o := by
  cases r with
  | none => cases h
  | some a => exact ⟨a, rfl, h⟩
theorem e_nz {v : Int32} (h : v &&& 1 = v) : narrow .boolean (.int v) = .int v := by
  show Value.int (v &&& 1) = .int v
  rw [h]
theorem aI_cat (x : Int32) : (Value.int x).category = 1 := rfl
theorem aL_cat (x : Int64) : (Value.long x).category = 2 := rfl
theorem lv_args_tr (Z : aZ) : ∀ (av : List Value) (i : Nat), lv_args i (av.map (aTr Z)) = (lv_args i av).map (aTl Z)
  | [], _ => rfl
  | v :: av, i => by
    show (i, aTr Z v) :: lv_args (if (aTr Z v).category = 2 then i + 2 else i + 1) (av.map (aTr Z)) = (i, aTr Z v) :: (lv_args (if v.category = 2 then i + 2 else i + 1) av).map (aTl Z)
    rw [aTr_cat, lv_args_tr Z av]
theorem lg_len_tr (Z : aZ) : ∀ (av : List Value), (lg_sl (av.map (aTr Z))).length = (lg_sl av).length
  | [] => rfl
  | v :: av => by
    have ih := lg_len_tr Z av
    simp only [lg_sl, List.map_cons, List.flatMap_cons, List.length_append, aTr_cat] at ih ⊢
    rw [ih]
    congr 1
    by_cases h : v.category = 2 <;> simp [h]
theorem AM_of2 {md : Bool} {M : aM} {av : List Value} {lv : List (Nat × Value)} {σ σ' : aSt} {r : Option Value} (hy : plainName M.1.cls = true) (hlv : lv_args 0 av = lv) (hn : (lg_sl av).length ≤ M.2.2.1) (h : AW md M 0 lv [] σ 0 0 r σ') : AM md M av σ r σ' :=
  AM_of hy (fun Z => by rw [lv_args_tr, hlv]) (fun Z => by rw [lg_len_tr]; exact hn) h
section AWC
variable {md : Bool} {M M2 : aM} {pc ix n b ci : Nat} {lv : List (Nat × Value)} {st stk av : List Value} {σ σ' σ1 : aSt} {cu su : Nat} {r : Option Value} {v : Value} {host : String}
theorem w_callV1 (hM : AM md M2 (va_rf (some b) :: av) σ (some v) σ1) (hd : decode M.2.1 pc = .ok (.invokevirtual ix, 3)) (hk : aKd M2 n) (w1 : Cond.methodLink M.1.cls ix M2.1 ∈ wsL_law) (w2 : Cond.instanceMethod M2.1 ∈ wsL_law) (w3 : Cond.selects M2.1.cls M2.1 M2.1 ∈ wsL_law) (hn : av.length = n) (hst : stk = av.reverse ++ va_rf (some b) :: st) (hr : okO md σ b ci) (hci : (vwCl[ci]?.map (·.1)) = some M2.1.cls) (hfit : aFit M M2 cu su) (hcat : (st.map fun v => v.category).sum ≤ 8) (kk : AW md M (pc + 3) lv (v :: st) σ1 (cu + M2.2.2.2.2.2.2.1) (su + M2.2.2.2.2.2.2.2) r σ') : AW md M pc lv stk σ cu su r σ' := w_callV hM hd hk w1 w2 w3 hn hst hr hci hfit hcat kk
theorem w_callV0 (hM : AM md M2 (va_rf (some b) :: av) σ none σ1) (hd : decode M.2.1 pc = .ok (.invokevirtual ix, 3)) (hk : aKd M2 n) (w1 : Cond.methodLink M.1.cls ix M2.1 ∈ wsL_law) (w2 : Cond.instanceMethod M2.1 ∈ wsL_law) (w3 : Cond.selects M2.1.cls M2.1 M2.1 ∈ wsL_law) (hn : av.length = n) (hst : stk = av.reverse ++ va_rf (some b) :: st) (hr : okO md σ b ci) (hci : (vwCl[ci]?.map (·.1)) = some M2.1.cls) (hfit : aFit M M2 cu su) (hcat : (st.map fun v => v.category).sum ≤ 8) (kk : AW md M (pc + 3) lv st σ1 (cu + M2.2.2.2.2.2.2.1) (su + M2.2.2.2.2.2.2.2) r σ') : AW md M pc lv stk σ cu su r σ' := w_callV hM hd hk w1 w2 w3 hn hst hr hci hfit hcat kk
theorem w_callS1 (hM : AM md M2 av σ (some v) σ1) (hd : decode M.2.1 pc = .ok (.invokestatic ix, 3)) (hk : aKd M2 n) (w1 : Cond.methodLink M.1.cls ix M2.1 ∈ wsL_law) (w2 : Cond.static M2.1 ∈ wsL_law) (hn : av.length = n) (hst : stk = av.reverse ++ st) (hfit : aFit M M2 cu su) (hcat : (st.map fun v => v.category).sum ≤ 8) (kk : AW md M (pc + 3) lv (v :: st) σ1 (cu + M2.2.2.2.2.2.2.1) (su + M2.2.2.2.2.2.2.2) r σ') : AW md M pc lv stk σ cu su r σ' := w_callS hM hd hk w1 w2 hn hst hfit hcat kk
theorem w_callS0 (hM : AM md M2 av σ none σ1) (hd : decode M.2.1 pc = .ok (.invokestatic ix, 3)) (hk : aKd M2 n) (w1 : Cond.methodLink M.1.cls ix M2.1 ∈ wsL_law) (w2 : Cond.static M2.1 ∈ wsL_law) (hn : av.length = n) (hst : stk = av.reverse ++ st) (hfit : aFit M M2 cu su) (hcat : (st.map fun v => v.category).sum ≤ 8) (kk : AW md M (pc + 3) lv st σ1 (cu + M2.2.2.2.2.2.2.1) (su + M2.2.2.2.2.2.2.2) r σ') : AW md M pc lv stk σ cu su r σ' := w_callS hM hd hk w1 w2 hn hst hfit hcat kk
theorem w_callSN1 (hM : AM md M2 av σ (some v) σ1) (hd : decode M.2.1 pc = .ok (.invokestatic ix, 3)) (hk : aKd M2 n) (w1 : (M.1.cls, ix, M2.1, host) ∈ aNest) (w2 : Cond.static M2.1 ∈ wsL_law) (hn : av.length = n) (hst : stk = av.reverse ++ st) (hfit : aFit M M2 cu su) (hcat : (st.map fun v => v.category).sum ≤ 8) (kk : AW md M (pc + 3) lv (v :: st) σ1 (cu + M2.2.2.2.2.2.2.1) (su + M2.2.2.2.2.2.2.2) r σ') : AW md M pc lv stk σ cu su r σ' := w_callSN hM hd hk w1 w2 hn hst hfit hcat kk
end AWC
theorem wd_13_17 : Cond.instantiable RX4 8 ∈ wsL_law := wI_r13 _ (List.mem_of_getElem? (i := 17) rfl)
theorem wd_13_16 : Cond.classLink RX11 146 RX4 ∈ wsL_law := wI_r13 _ (List.mem_of_getElem? (i := 16) rfl)
theorem wd_1_2 : Cond.initialized RX11 ∈ wsL_law := wI_r1 _ (List.mem_of_getElem? (i := 2) rfl)
theorem wd_1_5 : Cond.initialized RX12 ∈ wsL_law := wI_r1 _ (List.mem_of_getElem? (i := 5) rfl)
theorem wd_1_11 : Cond.instanceMethod objectInit ∈ wsL_law := wI_r1 _ (List.mem_of_getElem? (i := 11) rfl)
theorem wd_1_12 : Cond.code objectInit ⟨#[0xb1]⟩ 1 none ∈ wsL_law := wI_r1 _ (List.mem_of_getElem? (i := 12) rfl)
theorem wd_1_14 : Cond.fieldLink RX11 11 "OddPayments" "sheets" "[LOddPayments$Sheet;" ∈ wsL_law := wI_r1 _ (List.mem_of_getElem? (i := 14) rfl)
theorem wd_1_17 : Cond.initialized RX3 ∈ wsL_law := wI_r1 _ (List.mem_of_getElem? (i := 17) rfl)
theorem wd_1_18 : Cond.fieldLink RX11 18 "OddPayments" "ledger" "LOddPayments$Ledger;" ∈ wsL_law := wI_r1 _ (List.mem_of_getElem? (i := 18) rfl)
theorem wd_1_21 : Cond.initialized RX10 ∈ wsL_law := wI_r1 _ (List.mem_of_getElem? (i := 21) rfl)
theorem wd_1_22 : Cond.fieldLink RX11 25 "OddPayments" "tape" "LOddPayments$Tape;" ∈ wsL_law := wI_r1 _ (List.mem_of_getElem? (i := 22) rfl)
theorem wd_2_1 : Cond.initialized RX6 ∈ wsL_law := wI_r2 _ (List.mem_of_getElem? (i := 1) rfl)
theorem wd_2_2 : Cond.fieldLink RX11 34 "OddPayments" "reader" "LOddPayments$Reader;" ∈ wsL_law := wI_r2 _ (List.mem_of_getElem? (i := 2) rfl)
theorem wd_2_5 : Cond.initialized RX2 ∈ wsL_law := wI_r2 _ (List.mem_of_getElem? (i := 5) rfl)
theorem wd_2_6 : Cond.fieldLink RX11 43 "OddPayments" "judge" "LOddPayments$Judge;" ∈ wsL_law := wI_r2 _ (List.mem_of_getElem? (i := 6) rfl)
theorem wd_2_9 : Cond.initialized RX5 ∈ wsL_law := wI_r2 _ (List.mem_of_getElem? (i := 9) rfl)
theorem wd_2_10 : Cond.fieldLink RX11 52 "OddPayments" "pricer" "LOddPayments$Pricer;" ∈ wsL_law := wI_r2 _ (List.mem_of_getElem? (i := 10) rfl)
theorem wd_2_13 : Cond.initialized RX1 ∈ wsL_law := wI_r2 _ (List.mem_of_getElem? (i := 13) rfl)
theorem wd_2_14 : Cond.fieldLink RX11 59 "OddPayments" "shift" "LOddPayments$Drift;" ∈ wsL_law := wI_r2 _ (List.mem_of_getElem? (i := 14) rfl)
theorem wd_2_17 : Cond.initialized RX0 ∈ wsL_law := wI_r2 _ (List.mem_of_getElem? (i := 17) rfl)
theorem wd_2_18 : Cond.fieldLink RX11 66 "OddPayments" "asker" "LOddPayments$Asker;" ∈ wsL_law := wI_r2 _ (List.mem_of_getElem? (i := 18) rfl)
theorem wd_2_21 : Cond.initialized RX8 ∈ wsL_law := wI_r2 _ (List.mem_of_getElem? (i := 21) rfl)
theorem wd_2_22 : Cond.fieldLink RX11 73 "OddPayments" "spare" "LOddPayments$RuleBook;" ∈ wsL_law := wI_r2 _ (List.mem_of_getElem? (i := 22) rfl)
theorem wd_2_23 : Cond.fieldLink RX11 77 "OddPayments" "latestFault" "I" ∈ wsL_law := wI_r2 _ (List.mem_of_getElem? (i := 23) rfl)
theorem wd_3_0 : Cond.fieldLink RX11 81 "OddPayments" "finding" "I" ∈ wsL_law := wI_r3 _ (List.mem_of_getElem? (i := 0) rfl)
theorem wd_3_2 : Cond.initialized RX9 ∈ wsL_law := wI_r3 _ (List.mem_of_getElem? (i := 2) rfl)
theorem wd_3_7 : Cond.fieldLink RX3 11 "OddPayments$Ledger" "byTag" "[LOddPayments$Payment;" ∈ wsL_law := wI_r3 _ (List.mem_of_getElem? (i := 7) rfl)
theorem wd_3_8 : Cond.fieldLink RX3 17 "OddPayments$Ledger" "ordered" "[LOddPayments$Payment;" ∈ wsL_law := wI_r3 _ (List.mem_of_getElem? (i := 8) rfl)
theorem wd_3_9 : Cond.fieldLink RX3 20 "OddPayments$Ledger" "size" "I" ∈ wsL_law := wI_r3 _ (List.mem_of_getElem? (i := 9) rfl)
theorem wd_3_10 : Cond.fieldLink RX3 24 "OddPayments$Ledger" "marked" "I" ∈ wsL_law := wI_r3 _ (List.mem_of_getElem? (i := 10) rfl)
theorem wd_3_15 : Cond.fieldLink RX10 9 "OddPayments$Tape" "tokens" "[I" ∈ wsL_law := wI_r3 _ (List.mem_of_getElem? (i := 15) rfl)
theorem wd_3_16 : Cond.fieldLink RX10 13 "OddPayments$Tape" "values" "[I" ∈ wsL_law := wI_r3 _ (List.mem_of_getElem? (i := 16) rfl)
theorem wd_3_17 : Cond.fieldLink RX10 16 "OddPayments$Tape" "places" "[I" ∈ wsL_law := wI_r3 _ (List.mem_of_getElem? (i := 17) rfl)
theorem wd_3_18 : Cond.fieldLink RX10 19 "OddPayments$Tape" "size" "I" ∈ wsL_law := wI_r3 _ (List.mem_of_getElem? (i := 18) rfl)
theorem wd_3_20 : Cond.fieldLink RX10 23 "OddPayments$Tape" "bytes" "[B" ∈ wsL_law := wI_r3 _ (List.mem_of_getElem? (i := 20) rfl)
theorem wd_3_21 : Cond.fieldLink RX10 27 "OddPayments$Tape" "many" "I" ∈ wsL_law := wI_r3 _ (List.mem_of_getElem? (i := 21) rfl)
theorem wd_4_2 : Cond.fieldLink RX6 9 "OddPayments$Reader" "wrong" "I" ∈ wsL_law := wI_r4 _ (List.mem_of_getElem? (i := 2) rfl)
theorem wd_4_3 : Cond.fieldLink RX6 15 "OddPayments$Reader" "wrongPlace" "I" ∈ wsL_law := wI_r4 _ (List.mem_of_getElem? (i := 3) rfl)
theorem wd_4_4 : Cond.fieldLink RX6 18 "OddPayments$Reader" "book" "LOddPayments$RuleBook;" ∈ wsL_law := wI_r4 _ (List.mem_of_getElem? (i := 4) rfl)
theorem wd_4_5 : Cond.fieldLink RX6 22 "OddPayments$Reader" "at" "I" ∈ wsL_law := wI_r4 _ (List.mem_of_getElem? (i := 5) rfl)
theorem wd_4_6 : Cond.fieldLink RX6 27 "OddPayments$Reader" "token" "I" ∈ wsL_law := wI_r4 _ (List.mem_of_getElem? (i := 6) rfl)
theorem wd_4_7 : Cond.fieldLink RX6 30 "OddPayments$Reader" "value" "I" ∈ wsL_law := wI_r4 _ (List.mem_of_getElem? (i := 7) rfl)
theorem wd_4_8 : Cond.fieldLink RX6 33 "OddPayments$Reader" "tape" "LOddPayments$Tape;" ∈ wsL_law := wI_r4 _ (List.mem_of_getElem? (i := 8) rfl)
theorem wd_4_14 : Cond.fieldLink RX2 12 "OddPayments$Judge" "book" "LOddPayments$RuleBook;" ∈ wsL_law := wI_r4 _ (List.mem_of_getElem? (i := 14) rfl)
theorem wd_4_16 : Cond.fieldLink RX2 20 "OddPayments$Judge" "line" "[LOddPayments$Payment;" ∈ wsL_law := wI_r4 _ (List.mem_of_getElem? (i := 16) rfl)
theorem wd_4_17 : Cond.fieldLink RX2 24 "OddPayments$Judge" "waiting" "I" ∈ wsL_law := wI_r4 _ (List.mem_of_getElem? (i := 17) rfl)
theorem wd_4_20 : Cond.initialized RX7 ∈ wsL_law := wI_r4 _ (List.mem_of_getElem? (i := 20) rfl)
theorem wd_4_21 : Cond.fieldLink RX2 31 "OddPayments$Judge" "row" "LOddPayments$Row;" ∈ wsL_law := wI_r4 _ (List.mem_of_getElem? (i := 21) rfl)
theorem wd_4_22 : Cond.fieldLink RX2 35 "OddPayments$Judge" "held" "[I" ∈ wsL_law := wI_r4 _ (List.mem_of_getElem? (i := 22) rfl)
theorem wd_4_23 : Cond.fieldLink RX2 39 "OddPayments$Judge" "scores" "[I" ∈ wsL_law := wI_r4 _ (List.mem_of_getElem? (i := 23) rfl)
theorem wd_5_1 : Cond.fieldLink RX2 42 "OddPayments$Judge" "worths" "[J" ∈ wsL_law := wI_r5 _ (List.mem_of_getElem? (i := 1) rfl)
theorem wd_5_2 : Cond.fieldLink RX2 46 "OddPayments$Judge" "ledger" "LOddPayments$Ledger;" ∈ wsL_law := wI_r5 _ (List.mem_of_getElem? (i := 2) rfl)
theorem wd_5_7 : Cond.fieldLink RX8 11 "OddPayments$RuleBook" "limits" "[I" ∈ wsL_law := wI_r5 _ (List.mem_of_getElem? (i := 7) rfl)
theorem wd_5_8 : Cond.fieldLink RX8 15 "OddPayments$RuleBook" "size" "I" ∈ wsL_law := wI_r5 _ (List.mem_of_getElem? (i := 8) rfl)
theorem wd_5_9 : Cond.fieldLink RX8 19 "OddPayments$RuleBook" "weights" "[I" ∈ wsL_law := wI_r5 _ (List.mem_of_getElem? (i := 9) rfl)
theorem wd_5_10 : Cond.fieldLink RX8 22 "OddPayments$RuleBook" "tests" "[I" ∈ wsL_law := wI_r5 _ (List.mem_of_getElem? (i := 10) rfl)
theorem wd_5_11 : Cond.fieldLink RX8 25 "OddPayments$RuleBook" "features" "[I" ∈ wsL_law := wI_r5 _ (List.mem_of_getElem? (i := 11) rfl)
theorem wd_5_12 : Cond.fieldLink RX8 28 "OddPayments$RuleBook" "signs" "[I" ∈ wsL_law := wI_r5 _ (List.mem_of_getElem? (i := 12) rfl)
theorem wd_5_13 : Cond.fieldLink RX8 31 "OddPayments$RuleBook" "numbers" "[I" ∈ wsL_law := wI_r5 _ (List.mem_of_getElem? (i := 13) rfl)
theorem wd_5_15 : Cond.instanceMethod yX8_clear ∈ wsL_law := wI_r5 _ (List.mem_of_getElem? (i := 15) rfl)
theorem wd_5_16 : Cond.selects RX8 yX8_clear yX8_clear ∈ wsL_law := wI_r5 _ (List.mem_of_getElem? (i := 16) rfl)
theorem wd_5_17 : Cond.code yX8_clear cX8_clear 1 none ∈ wsL_law := wI_r5 _ (List.mem_of_getElem? (i := 17) rfl)
theorem wd_5_21 : Cond.fieldLink RX7 11 "OddPayments$Row" "values" "[I" ∈ wsL_law := wI_r5 _ (List.mem_of_getElem? (i := 21) rfl)
theorem wd_5_22 : Cond.fieldLink RX7 15 "OddPayments$Row" "faded" "I" ∈ wsL_law := wI_r5 _ (List.mem_of_getElem? (i := 22) rfl)
theorem wd_5_23 : Cond.fieldLink RX7 19 "OddPayments$Row" "links" "[I" ∈ wsL_law := wI_r5 _ (List.mem_of_getElem? (i := 23) rfl)
theorem wd_6_0 : Cond.fieldLink RX7 22 "OddPayments$Row" "payees" "I" ∈ wsL_law := wI_r6 _ (List.mem_of_getElem? (i := 0) rfl)
theorem wd_6_1 : Cond.fieldLink RX7 25 "OddPayments$Row" "latest" "I" ∈ wsL_law := wI_r6 _ (List.mem_of_getElem? (i := 1) rfl)
theorem wd_6_2 : Cond.fieldLink RX7 28 "OddPayments$Row" "window" "I" ∈ wsL_law := wI_r6 _ (List.mem_of_getElem? (i := 2) rfl)
theorem wd_6_3 : Cond.fieldLink RX7 31 "OddPayments$Row" "decay" "I" ∈ wsL_law := wI_r6 _ (List.mem_of_getElem? (i := 3) rfl)
theorem wd_6_4 : Cond.methodLink RX2 50 yX2_forget ∈ wsL_law := wI_r6 _ (List.mem_of_getElem? (i := 4) rfl)
theorem wd_6_5 : Cond.instanceMethod yX2_forget ∈ wsL_law := wI_r6 _ (List.mem_of_getElem? (i := 5) rfl)
theorem wd_6_6 : Cond.selects RX2 yX2_forget yX2_forget ∈ wsL_law := wI_r6 _ (List.mem_of_getElem? (i := 6) rfl)
theorem wd_6_7 : Cond.code yX2_forget cX2_forget 1 none ∈ wsL_law := wI_r6 _ (List.mem_of_getElem? (i := 7) rfl)
theorem wd_6_8 : Cond.methodLink RX2 53 yJ7_fill_53178 ∈ wsL_law := wI_r6 _ (List.mem_of_getElem? (i := 8) rfl)
theorem wd_6_9 : Cond.static yJ7_fill_53178 ∈ wsL_law := wI_r6 _ (List.mem_of_getElem? (i := 9) rfl)
theorem wd_6_10 : Cond.initialized RJ7 ∈ wsL_law := wI_r6 _ (List.mem_of_getElem? (i := 10) rfl)
theorem wd_6_11 : Cond.code yJ7_fill_53178 cJ7_fill_53178 4 none ∈ wsL_law := wI_r6 _ (List.mem_of_getElem? (i := 11) rfl)
theorem wd_6_16 : Cond.fieldLink RX5 9 "OddPayments$Pricer" "blockCost" "I" ∈ wsL_law := wI_r6 _ (List.mem_of_getElem? (i := 16) rfl)
theorem wd_6_17 : Cond.fieldLink RX5 15 "OddPayments$Pricer" "lookCost" "I" ∈ wsL_law := wI_r6 _ (List.mem_of_getElem? (i := 17) rfl)
theorem wd_6_18 : Cond.fieldLink RX5 18 "OddPayments$Pricer" "bestLook" "I" ∈ wsL_law := wI_r6 _ (List.mem_of_getElem? (i := 18) rfl)
theorem wd_6_19 : Cond.fieldLink RX5 21 "OddPayments$Pricer" "bestBlock" "I" ∈ wsL_law := wI_r6 _ (List.mem_of_getElem? (i := 19) rfl)
theorem wd_6_20 : Cond.fieldLink RX5 24 "OddPayments$Pricer" "bestPrice" "J" ∈ wsL_law := wI_r6 _ (List.mem_of_getElem? (i := 20) rfl)
theorem wd_6_21 : Cond.fieldLink RX5 28 "OddPayments$Pricer" "scores" "[I" ∈ wsL_law := wI_r6 _ (List.mem_of_getElem? (i := 21) rfl)
theorem wd_6_22 : Cond.fieldLink RX5 32 "OddPayments$Pricer" "losses" "[I" ∈ wsL_law := wI_r6 _ (List.mem_of_getElem? (i := 22) rfl)
theorem wd_6_23 : Cond.fieldLink RX5 35 "OddPayments$Pricer" "rated" "I" ∈ wsL_law := wI_r6 _ (List.mem_of_getElem? (i := 23) rfl)
theorem wd_7_0 : Cond.fieldLink RX5 38 "OddPayments$Pricer" "thresholds" "[I" ∈ wsL_law := wI_r7 _ (List.mem_of_getElem? (i := 0) rfl)
theorem wd_7_1 : Cond.fieldLink RX5 41 "OddPayments$Pricer" "steps" "I" ∈ wsL_law := wI_r7 _ (List.mem_of_getElem? (i := 1) rfl)
theorem wd_7_2 : Cond.fieldLink RX5 46 "OddPayments$Pricer" "sums" "[I" ∈ wsL_law := wI_r7 _ (List.mem_of_getElem? (i := 2) rfl)
theorem wd_7_3 : Cond.fieldLink RX5 49 "OddPayments$Pricer" "ledger" "LOddPayments$Ledger;" ∈ wsL_law := wI_r7 _ (List.mem_of_getElem? (i := 3) rfl)
theorem wd_7_4 : Cond.fieldLink RX5 53 "OddPayments$Pricer" "judge" "LOddPayments$Judge;" ∈ wsL_law := wI_r7 _ (List.mem_of_getElem? (i := 4) rfl)
theorem wd_7_8 : Cond.fieldLink RX1 7 "OddPayments$Drift" "first" "I" ∈ wsL_law := wI_r7 _ (List.mem_of_getElem? (i := 8) rfl)
theorem wd_7_9 : Cond.fieldLink RX1 13 "OddPayments$Drift" "second" "I" ∈ wsL_law := wI_r7 _ (List.mem_of_getElem? (i := 9) rfl)
theorem wd_7_10 : Cond.fieldLink RX1 16 "OddPayments$Drift" "x" "I" ∈ wsL_law := wI_r7 _ (List.mem_of_getElem? (i := 10) rfl)
theorem wd_7_11 : Cond.fieldLink RX1 19 "OddPayments$Drift" "y" "I" ∈ wsL_law := wI_r7 _ (List.mem_of_getElem? (i := 11) rfl)
theorem wd_7_15 : Cond.fieldLink RX0 9 "OddPayments$Asker" "trail" "[I" ∈ wsL_law := wI_r7 _ (List.mem_of_getElem? (i := 15) rfl)
theorem wd_7_16 : Cond.fieldLink RX0 13 "OddPayments$Asker" "steps" "I" ∈ wsL_law := wI_r7 _ (List.mem_of_getElem? (i := 16) rfl)
theorem wd_7_17 : Cond.fieldLink RX0 17 "OddPayments$Asker" "asked" "LOddPayments$Payment;" ∈ wsL_law := wI_r7 _ (List.mem_of_getElem? (i := 17) rfl)
theorem wd_7_18 : Cond.fieldLink RX0 21 "OddPayments$Asker" "own" "I" ∈ wsL_law := wI_r7 _ (List.mem_of_getElem? (i := 18) rfl)
theorem wd_7_19 : Cond.fieldLink RX0 24 "OddPayments$Asker" "score" "I" ∈ wsL_law := wI_r7 _ (List.mem_of_getElem? (i := 19) rfl)
theorem wd_8_0 : Cond.fieldLink RX9 9 "OddPayments$Sheet" "items" "[I" ∈ wsL_law := wI_r8 _ (List.mem_of_getElem? (i := 0) rfl)
theorem wd_8_1 : Cond.fieldLink RX9 15 "OddPayments$Sheet" "there" "Z" ∈ wsL_law := wI_r8 _ (List.mem_of_getElem? (i := 1) rfl)
theorem wd_8_2 : Cond.fieldLink RX9 19 "OddPayments$Sheet" "lane" "I" ∈ wsL_law := wI_r8 _ (List.mem_of_getElem? (i := 2) rfl)
theorem wd_8_3 : Cond.fieldLink RX9 23 "OddPayments$Sheet" "size" "I" ∈ wsL_law := wI_r8 _ (List.mem_of_getElem? (i := 3) rfl)
theorem wd_8_8 : Cond.fieldLink RX12 7 "OddPaymentsModel" "lane" "[I" ∈ wsL_law := wI_r8 _ (List.mem_of_getElem? (i := 8) rfl)
theorem wd_8_9 : Cond.fieldLink RX12 13 "OddPaymentsModel" "many" "[I" ∈ wsL_law := wI_r8 _ (List.mem_of_getElem? (i := 9) rfl)
theorem wd_8_10 : Cond.fieldLink RX12 16 "OddPaymentsModel" "item" "[I" ∈ wsL_law := wI_r8 _ (List.mem_of_getElem? (i := 10) rfl)
theorem wd_8_11 : Cond.fieldLink RX12 19 "OddPaymentsModel" "tag" "[I" ∈ wsL_law := wI_r8 _ (List.mem_of_getElem? (i := 11) rfl)
theorem wd_8_12 : Cond.fieldLink RX12 22 "OddPaymentsModel" "time" "[I" ∈ wsL_law := wI_r8 _ (List.mem_of_getElem? (i := 12) rfl)
theorem wd_8_13 : Cond.fieldLink RX12 25 "OddPaymentsModel" "payer" "[I" ∈ wsL_law := wI_r8 _ (List.mem_of_getElem? (i := 13) rfl)
theorem wd_8_14 : Cond.fieldLink RX12 28 "OddPaymentsModel" "payee" "[I" ∈ wsL_law := wI_r8 _ (List.mem_of_getElem? (i := 14) rfl)
theorem wd_8_15 : Cond.fieldLink RX12 31 "OddPaymentsModel" "amount" "[I" ∈ wsL_law := wI_r8 _ (List.mem_of_getElem? (i := 15) rfl)
theorem wd_8_16 : Cond.fieldLink RX12 34 "OddPaymentsModel" "sortOf" "[I" ∈ wsL_law := wI_r8 _ (List.mem_of_getElem? (i := 16) rfl)
theorem wd_8_17 : Cond.fieldLink RX12 37 "OddPaymentsModel" "verdict" "[I" ∈ wsL_law := wI_r8 _ (List.mem_of_getElem? (i := 17) rfl)
theorem wd_8_18 : Cond.fieldLink RX12 40 "OddPaymentsModel" "order" "[I" ∈ wsL_law := wI_r8 _ (List.mem_of_getElem? (i := 18) rfl)
theorem wd_8_19 : Cond.fieldLink RX12 43 "OddPaymentsModel" "window" "I" ∈ wsL_law := wI_r8 _ (List.mem_of_getElem? (i := 19) rfl)
theorem wd_8_20 : Cond.fieldLink RX12 47 "OddPaymentsModel" "decay" "I" ∈ wsL_law := wI_r8 _ (List.mem_of_getElem? (i := 20) rfl)
theorem wd_8_21 : Cond.fieldLink RX12 50 "OddPaymentsModel" "look" "I" ∈ wsL_law := wI_r8 _ (List.mem_of_getElem? (i := 21) rfl)
theorem wd_8_22 : Cond.fieldLink RX12 53 "OddPaymentsModel" "block" "I" ∈ wsL_law := wI_r8 _ (List.mem_of_getElem? (i := 22) rfl)
theorem wd_8_23 : Cond.fieldLink RX12 56 "OddPaymentsModel" "feature" "[I" ∈ wsL_law := wI_r8 _ (List.mem_of_getElem? (i := 23) rfl)
theorem wd_9_0 : Cond.fieldLink RX12 59 "OddPaymentsModel" "weight" "[I" ∈ wsL_law := wI_r9 _ (List.mem_of_getElem? (i := 0) rfl)
theorem wd_9_1 : Cond.fieldLink RX12 62 "OddPaymentsModel" "tests" "[I" ∈ wsL_law := wI_r9 _ (List.mem_of_getElem? (i := 1) rfl)
theorem wd_9_2 : Cond.fieldLink RX12 65 "OddPaymentsModel" "test" "[I" ∈ wsL_law := wI_r9 _ (List.mem_of_getElem? (i := 2) rfl)
theorem wd_9_3 : Cond.fieldLink RX12 68 "OddPaymentsModel" "newWeight" "[I" ∈ wsL_law := wI_r9 _ (List.mem_of_getElem? (i := 3) rfl)
theorem wd_9_4 : Cond.fieldLink RX12 71 "OddPaymentsModel" "newTests" "[I" ∈ wsL_law := wI_r9 _ (List.mem_of_getElem? (i := 4) rfl)
theorem wd_9_5 : Cond.fieldLink RX12 74 "OddPaymentsModel" "newTest" "[I" ∈ wsL_law := wI_r9 _ (List.mem_of_getElem? (i := 5) rfl)
theorem wd_9_6 : Cond.fieldLink RX12 77 "OddPaymentsModel" "limit" "[I" ∈ wsL_law := wI_r9 _ (List.mem_of_getElem? (i := 6) rfl)
theorem wd_9_7 : Cond.fieldLink RX12 80 "OddPaymentsModel" "tape" "[I" ∈ wsL_law := wI_r9 _ (List.mem_of_getElem? (i := 7) rfl)
theorem wd_9_8 : Cond.fieldLink RX12 83 "OddPaymentsModel" "score" "[I" ∈ wsL_law := wI_r9 _ (List.mem_of_getElem? (i := 8) rfl)
theorem wd_9_9 : Cond.fieldLink RX12 86 "OddPaymentsModel" "queue" "[I" ∈ wsL_law := wI_r9 _ (List.mem_of_getElem? (i := 9) rfl)
theorem wd_9_10 : Cond.fieldLink RX12 89 "OddPaymentsModel" "costBy" "[I" ∈ wsL_law := wI_r9 _ (List.mem_of_getElem? (i := 10) rfl)
theorem wd_9_11 : Cond.fieldLink RX12 92 "OddPaymentsModel" "holds" "[I" ∈ wsL_law := wI_r9 _ (List.mem_of_getElem? (i := 11) rfl)
theorem wd_9_12 : Cond.fieldLink RX12 95 "OddPaymentsModel" "ways" "[J" ∈ wsL_law := wI_r9 _ (List.mem_of_getElem? (i := 12) rfl)
theorem wd_9_13 : Cond.fieldLink RX12 99 "OddPaymentsModel" "trace" "[I" ∈ wsL_law := wI_r9 _ (List.mem_of_getElem? (i := 13) rfl)
theorem wd_9_17 : Cond.code yX11_sheet cX11_sheet 4 (some .int) ∈ wsL_law := wI_r9 _ (List.mem_of_getElem? (i := 17) rfl)
theorem wd_9_18 : Cond.constant RX11 93 (-1000001) ∈ wsL_law := wI_r9 _ (List.mem_of_getElem? (i := 18) rfl)
theorem wd_9_19 : Cond.methodLink RX11 85 yX11_isSheet ∈ wsL_law := wI_r9 _ (List.mem_of_getElem? (i := 19) rfl)
theorem wd_9_20 : Cond.static yX11_isSheet ∈ wsL_law := wI_r9 _ (List.mem_of_getElem? (i := 20) rfl)
theorem wd_9_21 : Cond.code yX11_isSheet cX11_isSheet 1 (some .boolean) ∈ wsL_law := wI_r9 _ (List.mem_of_getElem? (i := 21) rfl)
theorem wd_9_22 : Cond.methodLink RX11 89 yX11_within ∈ wsL_law := wI_r9 _ (List.mem_of_getElem? (i := 22) rfl)
theorem wd_9_23 : Cond.static yX11_within ∈ wsL_law := wI_r9 _ (List.mem_of_getElem? (i := 23) rfl)
theorem wd_10_0 : Cond.code yX11_within cX11_within 3 (some .boolean) ∈ wsL_law := wI_r10 _ (List.mem_of_getElem? (i := 0) rfl)
theorem wd_10_1 : Cond.methodLink RX11 94 yX11_found ∈ wsL_law := wI_r10 _ (List.mem_of_getElem? (i := 1) rfl)
theorem wd_10_2 : Cond.instanceMethod yX11_found ∈ wsL_law := wI_r10 _ (List.mem_of_getElem? (i := 2) rfl)
theorem wd_10_3 : Cond.selects RX11 yX11_found yX11_found ∈ wsL_law := wI_r10 _ (List.mem_of_getElem? (i := 3) rfl)
theorem wd_10_4 : Cond.code yX11_found cX11_found 2 (some .int) ∈ wsL_law := wI_r10 _ (List.mem_of_getElem? (i := 4) rfl)
theorem wd_10_5 : Cond.constant RX11 346 (-1000010) ∈ wsL_law := wI_r10 _ (List.mem_of_getElem? (i := 5) rfl)
theorem wd_10_6 : Cond.methodLink RX11 98 yX9_lay ∈ wsL_law := wI_r10 _ (List.mem_of_getElem? (i := 6) rfl)
theorem wd_10_7 : Cond.instanceMethod yX9_lay ∈ wsL_law := wI_r10 _ (List.mem_of_getElem? (i := 7) rfl)
theorem wd_10_8 : Cond.selects RX9 yX9_lay yX9_lay ∈ wsL_law := wI_r10 _ (List.mem_of_getElem? (i := 8) rfl)
theorem wd_10_9 : Cond.code yX9_lay cX9_lay 3 none ∈ wsL_law := wI_r10 _ (List.mem_of_getElem? (i := 9) rfl)
theorem wd_10_10 : Cond.methodLink RX9 26 yJ7_fill_53178 ∈ wsL_law := wI_r10 _ (List.mem_of_getElem? (i := 10) rfl)
theorem wd_10_11 : Cond.methodLink RX11 102 yX11_unhurt ∈ wsL_law := wI_r10 _ (List.mem_of_getElem? (i := 11) rfl)
theorem wd_10_12 : Cond.instanceMethod yX11_unhurt ∈ wsL_law := wI_r10 _ (List.mem_of_getElem? (i := 12) rfl)
theorem wd_10_13 : Cond.selects RX11 yX11_unhurt yX11_unhurt ∈ wsL_law := wI_r10 _ (List.mem_of_getElem? (i := 13) rfl)
theorem wd_10_14 : Cond.code yX11_unhurt cX11_unhurt 2 (some .int) ∈ wsL_law := wI_r10 _ (List.mem_of_getElem? (i := 14) rfl)
theorem wd_10_18 : Cond.code yX12_sheet cX12_sheet 5 (some .int) ∈ wsL_law := wI_r10 _ (List.mem_of_getElem? (i := 18) rfl)
theorem wd_10_19 : Cond.fieldLink RX12 102 "OddPaymentsModel" "thrown" "I" ∈ wsL_law := wI_r10 _ (List.mem_of_getElem? (i := 19) rfl)
theorem wd_10_20 : Cond.constantLong RX12 119 (2) ∈ wsL_law := wI_r10 _ (List.mem_of_getElem? (i := 20) rfl)
theorem wd_10_21 : Cond.constant RX12 121 (-1000001) ∈ wsL_law := wI_r10 _ (List.mem_of_getElem? (i := 21) rfl)
theorem wd_10_22 : Cond.fieldLink RX12 105 "OddPaymentsModel" "status" "I" ∈ wsL_law := wI_r10 _ (List.mem_of_getElem? (i := 22) rfl)
theorem wd_10_23 : Cond.methodLink RX12 115 yX12_isSheet ∈ wsL_law := wI_r10 _ (List.mem_of_getElem? (i := 23) rfl)
theorem wd_11_0 : Cond.static yX12_isSheet ∈ wsL_law := wI_r11 _ (List.mem_of_getElem? (i := 0) rfl)
theorem wd_11_1 : Cond.code yX12_isSheet cX12_isSheet 1 (some .boolean) ∈ wsL_law := wI_r11 _ (List.mem_of_getElem? (i := 1) rfl)
theorem wd_11_2 : Cond.constantLong RX12 109 (7) ∈ wsL_law := wI_r11 _ (List.mem_of_getElem? (i := 2) rfl)
theorem wd_11_3 : Cond.methodLink RX12 111 yX12_in ∈ wsL_law := wI_r11 _ (List.mem_of_getElem? (i := 3) rfl)
theorem wd_11_4 : Cond.static yX12_in ∈ wsL_law := wI_r11 _ (List.mem_of_getElem? (i := 4) rfl)
theorem wd_11_5 : Cond.code yX12_in cX12_in 6 (some .boolean) ∈ wsL_law := wI_r11 _ (List.mem_of_getElem? (i := 5) rfl)
theorem wd_11_6 : Cond.methodLink RX12 122 yX12_found ∈ wsL_law := wI_r11 _ (List.mem_of_getElem? (i := 6) rfl)
theorem wd_11_7 : Cond.instanceMethod yX12_found ∈ wsL_law := wI_r11 _ (List.mem_of_getElem? (i := 7) rfl)
theorem wd_11_8 : Cond.selects RX12 yX12_found yX12_found ∈ wsL_law := wI_r11 _ (List.mem_of_getElem? (i := 8) rfl)
theorem wd_11_9 : Cond.code yX12_found cX12_found 2 (some .int) ∈ wsL_law := wI_r11 _ (List.mem_of_getElem? (i := 9) rfl)
theorem wd_11_10 : Cond.constant RX12 108 (-1000010) ∈ wsL_law := wI_r11 _ (List.mem_of_getElem? (i := 10) rfl)
theorem wd_11_14 : Cond.code yX11_set cX11_set 5 (some .int) ∈ wsL_law := wI_r11 _ (List.mem_of_getElem? (i := 14) rfl)
theorem wd_11_15 : Cond.fieldLink RX11 105 "OddPayments$Sheet" "there" "Z" ∈ wsL_law := wI_r11 _ (List.mem_of_getElem? (i := 15) rfl)
theorem wd_11_16 : Cond.methodLink RX11 109 yX9_has ∈ wsL_law := wI_r11 _ (List.mem_of_getElem? (i := 16) rfl)
theorem wd_11_17 : Cond.instanceMethod yX9_has ∈ wsL_law := wI_r11 _ (List.mem_of_getElem? (i := 17) rfl)
theorem wd_11_18 : Cond.selects RX9 yX9_has yX9_has ∈ wsL_law := wI_r11 _ (List.mem_of_getElem? (i := 18) rfl)
theorem wd_11_19 : Cond.code yX9_has cX9_has 3 (some .boolean) ∈ wsL_law := wI_r11 _ (List.mem_of_getElem? (i := 19) rfl)
theorem wd_11_20 : Cond.methodLink RX11 113 yX9_put ∈ wsL_law := wI_r11 _ (List.mem_of_getElem? (i := 20) rfl)
theorem wd_11_21 : Cond.instanceMethod yX9_put ∈ wsL_law := wI_r11 _ (List.mem_of_getElem? (i := 21) rfl)
theorem wd_11_22 : Cond.selects RX9 yX9_put yX9_put ∈ wsL_law := wI_r11 _ (List.mem_of_getElem? (i := 22) rfl)
theorem wd_11_23 : Cond.code yX9_put cX9_put 4 (some .int) ∈ wsL_law := wI_r11 _ (List.mem_of_getElem? (i := 23) rfl)
theorem wd_12_0 : Cond.methodLink RX9 32 yX9_has ∈ wsL_law := wI_r12 _ (List.mem_of_getElem? (i := 0) rfl)
theorem wd_12_4 : Cond.code yX12_set cX12_set 4 (some .int) ∈ wsL_law := wI_r12 _ (List.mem_of_getElem? (i := 4) rfl)
theorem wd_12_8 : Cond.code yX11_copy cX11_copy 8 (some .int) ∈ wsL_law := wI_r12 _ (List.mem_of_getElem? (i := 8) rfl)
theorem wd_12_9 : Cond.fieldLink RX11 117 "OddPayments$Sheet" "lane" "I" ∈ wsL_law := wI_r12 _ (List.mem_of_getElem? (i := 9) rfl)
theorem wd_12_10 : Cond.fieldLink RX11 120 "OddPayments$Sheet" "items" "[I" ∈ wsL_law := wI_r12 _ (List.mem_of_getElem? (i := 10) rfl)
theorem wd_12_11 : Cond.methodLink RX11 124 arraycopyName ∈ wsL_law := wI_r12 _ (List.mem_of_getElem? (i := 11) rfl)
theorem wd_12_12 : Cond.native arraycopyName ∈ wsL_law := wI_r12 _ (List.mem_of_getElem? (i := 12) rfl)
theorem wd_12_13 : Cond.static arraycopyName ∈ wsL_law := wI_r12 _ (List.mem_of_getElem? (i := 13) rfl)
theorem wd_12_14 : Cond.initialized "java/lang/System" ∈ wsL_law := wI_r12 _ (List.mem_of_getElem? (i := 14) rfl)
theorem wd_12_18 : Cond.code yX12_copy cX12_copy 9 (some .int) ∈ wsL_law := wI_r12 _ (List.mem_of_getElem? (i := 18) rfl)
theorem wd_12_22 : Cond.code yX11_drop cX11_drop 3 (some .int) ∈ wsL_law := wI_r12 _ (List.mem_of_getElem? (i := 22) rfl)
theorem wd_12_23 : Cond.fieldLink RX11 130 "OddPayments$Sheet" "size" "I" ∈ wsL_law := wI_r12 _ (List.mem_of_getElem? (i := 23) rfl)
theorem wd_13_3 : Cond.code yX12_drop cX12_drop 2 (some .int) ∈ wsL_law := wI_r13 _ (List.mem_of_getElem? (i := 3) rfl)
theorem wd_13_7 : Cond.code yX11_pay cX11_pay 7 (some .int) ∈ wsL_law := wI_r13 _ (List.mem_of_getElem? (i := 7) rfl)
theorem wd_13_8 : Cond.methodLink RX11 133 yX11_admit ∈ wsL_law := wI_r13 _ (List.mem_of_getElem? (i := 8) rfl)
theorem wd_13_9 : Cond.instanceMethod yX11_admit ∈ wsL_law := wI_r13 _ (List.mem_of_getElem? (i := 9) rfl)
theorem wd_13_10 : Cond.selects RX11 yX11_admit yX11_admit ∈ wsL_law := wI_r13 _ (List.mem_of_getElem? (i := 10) rfl)
theorem wd_13_11 : Cond.code yX11_admit cX11_admit 8 (some .int) ∈ wsL_law := wI_r13 _ (List.mem_of_getElem? (i := 11) rfl)
theorem wd_13_12 : Cond.constant RX11 238 (100000) ∈ wsL_law := wI_r13 _ (List.mem_of_getElem? (i := 12) rfl)
theorem wd_13_13 : Cond.constant RX11 347 (-1000002) ∈ wsL_law := wI_r13 _ (List.mem_of_getElem? (i := 13) rfl)
theorem wd_13_14 : Cond.fieldLink RX11 333 "OddPayments$Ledger" "size" "I" ∈ wsL_law := wI_r13 _ (List.mem_of_getElem? (i := 14) rfl)
theorem wd_13_15 : Cond.constant RX11 198 (-1000003) ∈ wsL_law := wI_r13 _ (List.mem_of_getElem? (i := 15) rfl)
theorem wd_13_18 : Cond.initialized RX4 ∈ wsL_law := wI_r13 _ (List.mem_of_getElem? (i := 18) rfl)
theorem wd_13_19 : Cond.fieldLink RX11 145 "OddPayments$Payment" "number" "I" ∈ wsL_law := wI_r13 _ (List.mem_of_getElem? (i := 19) rfl)
theorem wd_13_20 : Cond.methodLink RX11 141 yX3_find ∈ wsL_law := wI_r13 _ (List.mem_of_getElem? (i := 20) rfl)
theorem wd_13_21 : Cond.instanceMethod yX3_find ∈ wsL_law := wI_r13 _ (List.mem_of_getElem? (i := 21) rfl)
theorem wd_13_22 : Cond.selects RX3 yX3_find yX3_find ∈ wsL_law := wI_r13 _ (List.mem_of_getElem? (i := 22) rfl)
theorem wd_13_23 : Cond.code yX3_find cX3_find 2 (some (.object "OddPayments$Payment")) ∈ wsL_law := wI_r13 _ (List.mem_of_getElem? (i := 23) rfl)
theorem wd_14_0 : Cond.methodLink RX11 348 yX4_init ∈ wsL_law := wI_r14 _ (List.mem_of_getElem? (i := 0) rfl)
theorem wd_14_1 : Cond.instanceMethod yX4_init ∈ wsL_law := wI_r14 _ (List.mem_of_getElem? (i := 1) rfl)
theorem wd_14_2 : Cond.code yX4_init cX4_init 8 none ∈ wsL_law := wI_r14 _ (List.mem_of_getElem? (i := 2) rfl)
theorem wd_14_3 : Cond.methodLink RX4 3 objectInit ∈ wsL_law := wI_r14 _ (List.mem_of_getElem? (i := 3) rfl)
theorem wd_14_4 : Cond.constant RX4 9 (-1000000) ∈ wsL_law := wI_r14 _ (List.mem_of_getElem? (i := 4) rfl)
theorem wd_14_5 : Cond.fieldLink RX4 10 "OddPayments$Payment" "verdict" "I" ∈ wsL_law := wI_r14 _ (List.mem_of_getElem? (i := 5) rfl)
theorem wd_14_6 : Cond.fieldLink RX4 16 "OddPayments$Payment" "tag" "I" ∈ wsL_law := wI_r14 _ (List.mem_of_getElem? (i := 6) rfl)
theorem wd_14_7 : Cond.fieldLink RX4 19 "OddPayments$Payment" "time" "I" ∈ wsL_law := wI_r14 _ (List.mem_of_getElem? (i := 7) rfl)
theorem wd_14_8 : Cond.fieldLink RX4 22 "OddPayments$Payment" "payer" "I" ∈ wsL_law := wI_r14 _ (List.mem_of_getElem? (i := 8) rfl)
theorem wd_14_9 : Cond.fieldLink RX4 25 "OddPayments$Payment" "payee" "I" ∈ wsL_law := wI_r14 _ (List.mem_of_getElem? (i := 9) rfl)
theorem wd_14_10 : Cond.fieldLink RX4 28 "OddPayments$Payment" "amount" "I" ∈ wsL_law := wI_r14 _ (List.mem_of_getElem? (i := 10) rfl)
theorem wd_14_11 : Cond.fieldLink RX4 31 "OddPayments$Payment" "sort" "I" ∈ wsL_law := wI_r14 _ (List.mem_of_getElem? (i := 11) rfl)
theorem wd_14_12 : Cond.fieldLink RX4 34 "OddPayments$Payment" "number" "I" ∈ wsL_law := wI_r14 _ (List.mem_of_getElem? (i := 12) rfl)
theorem wd_14_13 : Cond.methodLink RX11 351 yX3_take ∈ wsL_law := wI_r14 _ (List.mem_of_getElem? (i := 13) rfl)
theorem wd_14_14 : Cond.instanceMethod yX3_take ∈ wsL_law := wI_r14 _ (List.mem_of_getElem? (i := 14) rfl)
theorem wd_14_15 : Cond.selects RX3 yX3_take yX3_take ∈ wsL_law := wI_r14 _ (List.mem_of_getElem? (i := 15) rfl)
theorem wd_14_16 : Cond.code yX3_take cX3_take 3 none ∈ wsL_law := wI_r14 _ (List.mem_of_getElem? (i := 16) rfl)
theorem wd_14_17 : Cond.fieldLink RX3 35 "OddPayments$Payment" "tag" "I" ∈ wsL_law := wI_r14 _ (List.mem_of_getElem? (i := 17) rfl)
theorem wd_14_18 : Cond.methodLink RX3 31 yX4_comesBefore ∈ wsL_law := wI_r14 _ (List.mem_of_getElem? (i := 18) rfl)
theorem wd_14_19 : Cond.instanceMethod yX4_comesBefore ∈ wsL_law := wI_r14 _ (List.mem_of_getElem? (i := 19) rfl)
theorem wd_14_20 : Cond.selects RX4 yX4_comesBefore yX4_comesBefore ∈ wsL_law := wI_r14 _ (List.mem_of_getElem? (i := 20) rfl)
theorem wd_14_21 : Cond.code yX4_comesBefore cX4_comesBefore 2 (some .boolean) ∈ wsL_law := wI_r14 _ (List.mem_of_getElem? (i := 21) rfl)
theorem wd_14_22 : Cond.methodLink RX11 182 yX2_forget ∈ wsL_law := wI_r14 _ (List.mem_of_getElem? (i := 22) rfl)
theorem wd_15_2 : Cond.code yX12_pay cX12_pay 7 (some .int) ∈ wsL_law := wI_r15 _ (List.mem_of_getElem? (i := 2) rfl)
theorem wd_15_3 : Cond.methodLink RX12 147 yX12_coming ∈ wsL_law := wI_r15 _ (List.mem_of_getElem? (i := 3) rfl)
theorem wd_15_4 : Cond.instanceMethod yX12_coming ∈ wsL_law := wI_r15 _ (List.mem_of_getElem? (i := 4) rfl)
theorem wd_15_5 : Cond.selects RX12 yX12_coming yX12_coming ∈ wsL_law := wI_r15 _ (List.mem_of_getElem? (i := 5) rfl)
theorem wd_15_6 : Cond.code yX12_coming cX12_coming 9 (some .int) ∈ wsL_law := wI_r15 _ (List.mem_of_getElem? (i := 6) rfl)
theorem wd_15_7 : Cond.constantLong RX12 130 (999) ∈ wsL_law := wI_r15 _ (List.mem_of_getElem? (i := 7) rfl)
theorem wd_15_8 : Cond.constantLong RX12 132 (100000) ∈ wsL_law := wI_r15 _ (List.mem_of_getElem? (i := 8) rfl)
theorem wd_15_9 : Cond.constantLong RX12 134 (19) ∈ wsL_law := wI_r15 _ (List.mem_of_getElem? (i := 9) rfl)
theorem wd_15_10 : Cond.constantLong RX12 136 (3) ∈ wsL_law := wI_r15 _ (List.mem_of_getElem? (i := 10) rfl)
theorem wd_15_11 : Cond.constant RX12 126 (-1000000) ∈ wsL_law := wI_r15 _ (List.mem_of_getElem? (i := 11) rfl)
theorem wd_15_12 : Cond.constant RX12 141 (-1000002) ∈ wsL_law := wI_r15 _ (List.mem_of_getElem? (i := 12) rfl)
theorem wd_15_13 : Cond.fieldLink RX12 127 "OddPaymentsModel" "payments" "I" ∈ wsL_law := wI_r15 _ (List.mem_of_getElem? (i := 13) rfl)
theorem wd_15_14 : Cond.constant RX12 142 (-1000003) ∈ wsL_law := wI_r15 _ (List.mem_of_getElem? (i := 14) rfl)
theorem wd_15_15 : Cond.methodLink RX12 138 yX12_numberOf ∈ wsL_law := wI_r15 _ (List.mem_of_getElem? (i := 15) rfl)
theorem wd_15_16 : Cond.instanceMethod yX12_numberOf ∈ wsL_law := wI_r15 _ (List.mem_of_getElem? (i := 16) rfl)
theorem wd_15_17 : Cond.selects RX12 yX12_numberOf yX12_numberOf ∈ wsL_law := wI_r15 _ (List.mem_of_getElem? (i := 17) rfl)
theorem wd_15_18 : Cond.code yX12_numberOf cX12_numberOf 4 (some .int) ∈ wsL_law := wI_r15 _ (List.mem_of_getElem? (i := 18) rfl)
theorem wd_15_19 : Cond.methodLink RX12 143 yX12_isBefore ∈ wsL_law := wI_r15 _ (List.mem_of_getElem? (i := 19) rfl)
theorem wd_15_20 : Cond.instanceMethod yX12_isBefore ∈ wsL_law := wI_r15 _ (List.mem_of_getElem? (i := 20) rfl)
theorem wd_15_21 : Cond.selects RX12 yX12_isBefore yX12_isBefore ∈ wsL_law := wI_r15 _ (List.mem_of_getElem? (i := 21) rfl)
theorem wd_15_22 : Cond.code yX12_isBefore cX12_isBefore 3 (some .boolean) ∈ wsL_law := wI_r15 _ (List.mem_of_getElem? (i := 22) rfl)
theorem wd_16_2 : Cond.code yX11_batch cX11_batch 7 (some .int) ∈ wsL_law := wI_r16 _ (List.mem_of_getElem? (i := 2) rfl)
theorem wd_16_3 : Cond.methodLink RX11 137 yX11_admitFrom ∈ wsL_law := wI_r16 _ (List.mem_of_getElem? (i := 3) rfl)
theorem wd_16_4 : Cond.instanceMethod yX11_admitFrom ∈ wsL_law := wI_r16 _ (List.mem_of_getElem? (i := 4) rfl)
theorem wd_16_5 : Cond.selects RX11 yX11_admitFrom yX11_admitFrom ∈ wsL_law := wI_r16 _ (List.mem_of_getElem? (i := 5) rfl)
theorem wd_16_6 : Cond.code yX11_admitFrom cX11_admitFrom 3 (some .int) ∈ wsL_law := wI_r16 _ (List.mem_of_getElem? (i := 6) rfl)
theorem wd_16_10 : Cond.code yX12_batch cX12_batch 7 (some .int) ∈ wsL_law := wI_r16 _ (List.mem_of_getElem? (i := 10) rfl)
theorem wd_16_11 : Cond.constantLong RX12 151 (20) ∈ wsL_law := wI_r16 _ (List.mem_of_getElem? (i := 11) rfl)
theorem wd_16_15 : Cond.code yX11_told cX11_told 4 (some .int) ∈ wsL_law := wI_r16 _ (List.mem_of_getElem? (i := 15) rfl)
theorem wd_16_16 : Cond.fieldLink RX11 150 "OddPayments$Payment" "time" "I" ∈ wsL_law := wI_r16 _ (List.mem_of_getElem? (i := 16) rfl)
theorem wd_16_17 : Cond.fieldLink RX11 153 "OddPayments$Payment" "payer" "I" ∈ wsL_law := wI_r16 _ (List.mem_of_getElem? (i := 17) rfl)
theorem wd_16_18 : Cond.fieldLink RX11 156 "OddPayments$Payment" "payee" "I" ∈ wsL_law := wI_r16 _ (List.mem_of_getElem? (i := 18) rfl)
theorem wd_16_19 : Cond.fieldLink RX11 159 "OddPayments$Payment" "amount" "I" ∈ wsL_law := wI_r16 _ (List.mem_of_getElem? (i := 19) rfl)
theorem wd_16_20 : Cond.fieldLink RX11 162 "OddPayments$Payment" "sort" "I" ∈ wsL_law := wI_r16 _ (List.mem_of_getElem? (i := 20) rfl)
theorem wd_16_21 : Cond.fieldLink RX11 165 "OddPayments$Payment" "verdict" "I" ∈ wsL_law := wI_r16 _ (List.mem_of_getElem? (i := 21) rfl)
theorem wd_17_1 : Cond.code yX12_told cX12_told 4 (some .int) ∈ wsL_law := wI_r17 _ (List.mem_of_getElem? (i := 1) rfl)
theorem wd_17_2 : Cond.constantLong RX12 153 (6) ∈ wsL_law := wI_r17 _ (List.mem_of_getElem? (i := 2) rfl)
theorem wd_17_6 : Cond.code yX11_order cX11_order 3 (some .int) ∈ wsL_law := wI_r17 _ (List.mem_of_getElem? (i := 6) rfl)
theorem wd_17_7 : Cond.constant RX11 171 (-1000000) ∈ wsL_law := wI_r17 _ (List.mem_of_getElem? (i := 7) rfl)
theorem wd_17_8 : Cond.fieldLink RX11 172 "OddPayments$Payment" "tag" "I" ∈ wsL_law := wI_r17 _ (List.mem_of_getElem? (i := 8) rfl)
theorem wd_17_9 : Cond.methodLink RX11 168 yX3_inOrder ∈ wsL_law := wI_r17 _ (List.mem_of_getElem? (i := 9) rfl)
theorem wd_17_10 : Cond.instanceMethod yX3_inOrder ∈ wsL_law := wI_r17 _ (List.mem_of_getElem? (i := 10) rfl)
theorem wd_17_11 : Cond.selects RX3 yX3_inOrder yX3_inOrder ∈ wsL_law := wI_r17 _ (List.mem_of_getElem? (i := 11) rfl)
theorem wd_17_12 : Cond.code yX3_inOrder cX3_inOrder 2 (some (.object "OddPayments$Payment")) ∈ wsL_law := wI_r17 _ (List.mem_of_getElem? (i := 12) rfl)
theorem wd_17_16 : Cond.code yX12_order cX12_order 2 (some .int) ∈ wsL_law := wI_r17 _ (List.mem_of_getElem? (i := 16) rfl)
theorem wd_17_20 : Cond.code yX11_mark cX11_mark 3 (some .int) ∈ wsL_law := wI_r17 _ (List.mem_of_getElem? (i := 20) rfl)
theorem wd_17_21 : Cond.methodLink RX11 175 yX3_isMarked ∈ wsL_law := wI_r17 _ (List.mem_of_getElem? (i := 21) rfl)
theorem wd_17_22 : Cond.instanceMethod yX3_isMarked ∈ wsL_law := wI_r17 _ (List.mem_of_getElem? (i := 22) rfl)
theorem wd_17_23 : Cond.selects RX3 yX3_isMarked yX3_isMarked ∈ wsL_law := wI_r17 _ (List.mem_of_getElem? (i := 23) rfl)
theorem wd_18_0 : Cond.code yX3_isMarked cX3_isMarked 2 (some .boolean) ∈ wsL_law := wI_r18 _ (List.mem_of_getElem? (i := 0) rfl)
theorem wd_18_1 : Cond.methodLink RX11 178 yX3_turnMark ∈ wsL_law := wI_r18 _ (List.mem_of_getElem? (i := 1) rfl)
theorem wd_18_2 : Cond.instanceMethod yX3_turnMark ∈ wsL_law := wI_r18 _ (List.mem_of_getElem? (i := 2) rfl)
theorem wd_18_3 : Cond.selects RX3 yX3_turnMark yX3_turnMark ∈ wsL_law := wI_r18 _ (List.mem_of_getElem? (i := 3) rfl)
theorem wd_18_4 : Cond.code yX3_turnMark cX3_turnMark 2 none ∈ wsL_law := wI_r18 _ (List.mem_of_getElem? (i := 4) rfl)
theorem wd_18_8 : Cond.code yX12_mark cX12_mark 4 (some .int) ∈ wsL_law := wI_r18 _ (List.mem_of_getElem? (i := 8) rfl)
theorem wd_18_9 : Cond.fieldLink RX12 155 "OddPaymentsModel" "marked" "I" ∈ wsL_law := wI_r18 _ (List.mem_of_getElem? (i := 9) rfl)
theorem wd_18_13 : Cond.code yX11_feature cX11_feature 5 (some .int) ∈ wsL_law := wI_r18 _ (List.mem_of_getElem? (i := 13) rfl)
theorem wd_18_14 : Cond.fieldLink RX11 191 "OddPayments$Row" "values" "[I" ∈ wsL_law := wI_r18 _ (List.mem_of_getElem? (i := 14) rfl)
theorem wd_18_15 : Cond.methodLink RX11 187 yX2_rowOf ∈ wsL_law := wI_r18 _ (List.mem_of_getElem? (i := 15) rfl)
theorem wd_18_16 : Cond.instanceMethod yX2_rowOf ∈ wsL_law := wI_r18 _ (List.mem_of_getElem? (i := 16) rfl)
theorem wd_18_17 : Cond.selects RX2 yX2_rowOf yX2_rowOf ∈ wsL_law := wI_r18 _ (List.mem_of_getElem? (i := 17) rfl)
theorem wd_18_18 : Cond.code yX2_rowOf cX2_rowOf 3 (some (.object "OddPayments$Row")) ∈ wsL_law := wI_r18 _ (List.mem_of_getElem? (i := 18) rfl)
theorem wd_18_19 : Cond.methodLink RX2 59 yX7_gather ∈ wsL_law := wI_r18 _ (List.mem_of_getElem? (i := 19) rfl)
theorem wd_18_20 : Cond.instanceMethod yX7_gather ∈ wsL_law := wI_r18 _ (List.mem_of_getElem? (i := 20) rfl)
theorem wd_18_21 : Cond.selects RX7 yX7_gather yX7_gather ∈ wsL_law := wI_r18 _ (List.mem_of_getElem? (i := 21) rfl)
theorem wd_18_22 : Cond.code yX7_gather cX7_gather 7 none ∈ wsL_law := wI_r18 _ (List.mem_of_getElem? (i := 22) rfl)
theorem wd_18_23 : Cond.fieldLink RX7 38 "OddPayments$Ledger" "size" "I" ∈ wsL_law := wI_r18 _ (List.mem_of_getElem? (i := 23) rfl)
theorem wd_19_0 : Cond.fieldLink RX7 47 "OddPayments$Payment" "number" "I" ∈ wsL_law := wI_r19 _ (List.mem_of_getElem? (i := 0) rfl)
theorem wd_19_1 : Cond.fieldLink RX7 56 "OddPayments$Payment" "time" "I" ∈ wsL_law := wI_r19 _ (List.mem_of_getElem? (i := 1) rfl)
theorem wd_19_2 : Cond.fieldLink RX7 69 "OddPayments$Payment" "payee" "I" ∈ wsL_law := wI_r19 _ (List.mem_of_getElem? (i := 2) rfl)
theorem wd_19_3 : Cond.fieldLink RX7 72 "OddPayments$Ledger" "marked" "I" ∈ wsL_law := wI_r19 _ (List.mem_of_getElem? (i := 3) rfl)
theorem wd_19_4 : Cond.fieldLink RX7 78 "OddPayments$Payment" "amount" "I" ∈ wsL_law := wI_r19 _ (List.mem_of_getElem? (i := 4) rfl)
theorem wd_19_5 : Cond.methodLink RX7 34 yX7_begin ∈ wsL_law := wI_r19 _ (List.mem_of_getElem? (i := 5) rfl)
theorem wd_19_6 : Cond.instanceMethod yX7_begin ∈ wsL_law := wI_r19 _ (List.mem_of_getElem? (i := 6) rfl)
theorem wd_19_7 : Cond.selects RX7 yX7_begin yX7_begin ∈ wsL_law := wI_r19 _ (List.mem_of_getElem? (i := 7) rfl)
theorem wd_19_8 : Cond.code yX7_begin cX7_begin 3 none ∈ wsL_law := wI_r19 _ (List.mem_of_getElem? (i := 8) rfl)
theorem wd_19_9 : Cond.fieldLink RX7 91 "OddPayments$Payment" "sort" "I" ∈ wsL_law := wI_r19 _ (List.mem_of_getElem? (i := 9) rfl)
theorem wd_19_10 : Cond.fieldLink RX7 94 "OddPayments$RuleBook" "limits" "[I" ∈ wsL_law := wI_r19 _ (List.mem_of_getElem? (i := 10) rfl)
theorem wd_19_11 : Cond.methodLink RX7 85 yJ7_fill_53178 ∈ wsL_law := wI_r19 _ (List.mem_of_getElem? (i := 11) rfl)
theorem wd_19_12 : Cond.methodLink RX7 43 yX3_inOrder ∈ wsL_law := wI_r19 _ (List.mem_of_getElem? (i := 12) rfl)
theorem wd_19_13 : Cond.methodLink RX7 52 yX7_add ∈ wsL_law := wI_r19 _ (List.mem_of_getElem? (i := 13) rfl)
theorem wd_19_14 : Cond.instanceMethod yX7_add ∈ wsL_law := wI_r19 _ (List.mem_of_getElem? (i := 14) rfl)
theorem wd_19_15 : Cond.selects RX7 yX7_add yX7_add ∈ wsL_law := wI_r19 _ (List.mem_of_getElem? (i := 15) rfl)
theorem wd_19_16 : Cond.code yX7_add cX7_add 4 none ∈ wsL_law := wI_r19 _ (List.mem_of_getElem? (i := 16) rfl)
theorem wd_19_17 : Cond.fieldLink RX7 99 "OddPayments$Payment" "payer" "I" ∈ wsL_law := wI_r19 _ (List.mem_of_getElem? (i := 17) rfl)
theorem wd_19_18 : Cond.methodLink RX7 59 yX7_fade ∈ wsL_law := wI_r19 _ (List.mem_of_getElem? (i := 18) rfl)
theorem wd_19_19 : Cond.instanceMethod yX7_fade ∈ wsL_law := wI_r19 _ (List.mem_of_getElem? (i := 19) rfl)
theorem wd_19_20 : Cond.selects RX7 yX7_fade yX7_fade ∈ wsL_law := wI_r19 _ (List.mem_of_getElem? (i := 20) rfl)
theorem wd_19_21 : Cond.code yX7_fade cX7_fade 6 (some .int) ∈ wsL_law := wI_r19 _ (List.mem_of_getElem? (i := 21) rfl)
theorem wd_19_22 : Cond.methodLink RX7 63 yJ6_bitCount_0f7a4 ∈ wsL_law := wI_r19 _ (List.mem_of_getElem? (i := 22) rfl)
theorem wd_19_23 : Cond.static yJ6_bitCount_0f7a4 ∈ wsL_law := wI_r19 _ (List.mem_of_getElem? (i := 23) rfl)
theorem wd_20_0 : Cond.initialized RJ6 ∈ wsL_law := wI_r20 _ (List.mem_of_getElem? (i := 0) rfl)
theorem wd_20_1 : Cond.code yJ6_bitCount_0f7a4 cJ6_bitCount_0f7a4 1 (some .int) ∈ wsL_law := wI_r20 _ (List.mem_of_getElem? (i := 1) rfl)
theorem wd_20_2 : Cond.constant RJ6 265 (1431655765) ∈ wsL_law := wI_r20 _ (List.mem_of_getElem? (i := 2) rfl)
theorem wd_20_3 : Cond.constant RJ6 266 (858993459) ∈ wsL_law := wI_r20 _ (List.mem_of_getElem? (i := 3) rfl)
theorem wd_20_4 : Cond.constant RJ6 267 (252645135) ∈ wsL_law := wI_r20 _ (List.mem_of_getElem? (i := 4) rfl)
theorem wd_20_5 : Cond.methodLink RX7 75 yX7_far ∈ wsL_law := wI_r20 _ (List.mem_of_getElem? (i := 5) rfl)
theorem wd_20_6 : Cond.instanceMethod yX7_far ∈ wsL_law := wI_r20 _ (List.mem_of_getElem? (i := 6) rfl)
theorem wd_20_7 : Cond.selects RX7 yX7_far yX7_far ∈ wsL_law := wI_r20 _ (List.mem_of_getElem? (i := 7) rfl)
theorem wd_20_8 : Cond.code yX7_far cX7_far 5 (some .int) ∈ wsL_law := wI_r20 _ (List.mem_of_getElem? (i := 8) rfl)
theorem wd_20_9 : Cond.methodLink RX7 102 yX7_linkedTo ∈ wsL_law := wI_r20 _ (List.mem_of_getElem? (i := 9) rfl)
theorem wd_20_10 : Cond.instanceMethod yX7_linkedTo ∈ wsL_law := wI_r20 _ (List.mem_of_getElem? (i := 10) rfl)
theorem wd_20_11 : Cond.selects RX7 yX7_linkedTo yX7_linkedTo ∈ wsL_law := wI_r20 _ (List.mem_of_getElem? (i := 11) rfl)
theorem wd_20_12 : Cond.code yX7_linkedTo cX7_linkedTo 4 (some .int) ∈ wsL_law := wI_r20 _ (List.mem_of_getElem? (i := 12) rfl)
theorem wd_20_13 : Cond.methodLink RX7 81 yX7_takeAmount ∈ wsL_law := wI_r20 _ (List.mem_of_getElem? (i := 13) rfl)
theorem wd_20_14 : Cond.instanceMethod yX7_takeAmount ∈ wsL_law := wI_r20 _ (List.mem_of_getElem? (i := 14) rfl)
theorem wd_20_15 : Cond.selects RX7 yX7_takeAmount yX7_takeAmount ∈ wsL_law := wI_r20 _ (List.mem_of_getElem? (i := 15) rfl)
theorem wd_20_16 : Cond.code yX7_takeAmount cX7_takeAmount 3 none ∈ wsL_law := wI_r20 _ (List.mem_of_getElem? (i := 16) rfl)
theorem wd_20_20 : Cond.code yX12_feature cX12_feature 5 (some .int) ∈ wsL_law := wI_r20 _ (List.mem_of_getElem? (i := 20) rfl)
theorem wd_20_21 : Cond.constantLong RX12 175 (9) ∈ wsL_law := wI_r20 _ (List.mem_of_getElem? (i := 21) rfl)
theorem wd_20_22 : Cond.methodLink RX12 177 yX12_features ∈ wsL_law := wI_r20 _ (List.mem_of_getElem? (i := 22) rfl)
theorem wd_20_23 : Cond.instanceMethod yX12_features ∈ wsL_law := wI_r20 _ (List.mem_of_getElem? (i := 23) rfl)
theorem wd_21_0 : Cond.selects RX12 yX12_features yX12_features ∈ wsL_law := wI_r21 _ (List.mem_of_getElem? (i := 0) rfl)
theorem wd_21_1 : Cond.code yX12_features cX12_features 11 none ∈ wsL_law := wI_r21 _ (List.mem_of_getElem? (i := 1) rfl)
theorem wd_21_2 : Cond.methodLink RX12 158 yX12_isAhead ∈ wsL_law := wI_r21 _ (List.mem_of_getElem? (i := 2) rfl)
theorem wd_21_3 : Cond.instanceMethod yX12_isAhead ∈ wsL_law := wI_r21 _ (List.mem_of_getElem? (i := 3) rfl)
theorem wd_21_4 : Cond.selects RX12 yX12_isAhead yX12_isAhead ∈ wsL_law := wI_r21 _ (List.mem_of_getElem? (i := 4) rfl)
theorem wd_21_5 : Cond.code yX12_isAhead cX12_isAhead 4 (some .boolean) ∈ wsL_law := wI_r21 _ (List.mem_of_getElem? (i := 5) rfl)
theorem wd_21_6 : Cond.methodLink RX12 166 yX12_bits ∈ wsL_law := wI_r21 _ (List.mem_of_getElem? (i := 6) rfl)
theorem wd_21_7 : Cond.static yX12_bits ∈ wsL_law := wI_r21 _ (List.mem_of_getElem? (i := 7) rfl)
theorem wd_21_8 : Cond.code yX12_bits cX12_bits 3 (some .int) ∈ wsL_law := wI_r21 _ (List.mem_of_getElem? (i := 8) rfl)
theorem wd_21_9 : Cond.methodLink RX12 169 yX12_profileOf ∈ wsL_law := wI_r21 _ (List.mem_of_getElem? (i := 9) rfl)
theorem wd_21_10 : Cond.instanceMethod yX12_profileOf ∈ wsL_law := wI_r21 _ (List.mem_of_getElem? (i := 10) rfl)
theorem wd_21_11 : Cond.selects RX12 yX12_profileOf yX12_profileOf ∈ wsL_law := wI_r21 _ (List.mem_of_getElem? (i := 11) rfl)
theorem wd_21_12 : Cond.code yX12_profileOf cX12_profileOf 7 (some .int) ∈ wsL_law := wI_r21 _ (List.mem_of_getElem? (i := 12) rfl)
theorem wd_21_13 : Cond.methodLink RX12 162 yX12_faded ∈ wsL_law := wI_r21 _ (List.mem_of_getElem? (i := 13) rfl)
theorem wd_21_14 : Cond.instanceMethod yX12_faded ∈ wsL_law := wI_r21 _ (List.mem_of_getElem? (i := 14) rfl)
theorem wd_21_15 : Cond.selects RX12 yX12_faded yX12_faded ∈ wsL_law := wI_r21 _ (List.mem_of_getElem? (i := 15) rfl)
theorem wd_21_16 : Cond.code yX12_faded cX12_faded 6 (some .int) ∈ wsL_law := wI_r21 _ (List.mem_of_getElem? (i := 16) rfl)
theorem wd_21_17 : Cond.methodLink RX12 172 yX12_farOf ∈ wsL_law := wI_r21 _ (List.mem_of_getElem? (i := 17) rfl)
theorem wd_21_18 : Cond.instanceMethod yX12_farOf ∈ wsL_law := wI_r21 _ (List.mem_of_getElem? (i := 18) rfl)
theorem wd_21_19 : Cond.selects RX12 yX12_farOf yX12_farOf ∈ wsL_law := wI_r21 _ (List.mem_of_getElem? (i := 19) rfl)
theorem wd_21_20 : Cond.code yX12_farOf cX12_farOf 7 (some .int) ∈ wsL_law := wI_r21 _ (List.mem_of_getElem? (i := 20) rfl)
theorem wd_22_0 : Cond.code yX11_profile cX11_profile 4 (some .int) ∈ wsL_law := wI_r22 _ (List.mem_of_getElem? (i := 0) rfl)
theorem wd_22_1 : Cond.fieldLink RX11 194 "OddPayments$Row" "faded" "I" ∈ wsL_law := wI_r22 _ (List.mem_of_getElem? (i := 1) rfl)
theorem wd_22_5 : Cond.code yX12_profile cX12_profile 4 (some .int) ∈ wsL_law := wI_r22 _ (List.mem_of_getElem? (i := 5) rfl)
theorem wd_22_9 : Cond.code yX11_feed cX11_feed 4 (some .int) ∈ wsL_law := wI_r22 _ (List.mem_of_getElem? (i := 9) rfl)
theorem wd_22_10 : Cond.fieldLink RX11 197 "OddPayments$Tape" "size" "I" ∈ wsL_law := wI_r22 _ (List.mem_of_getElem? (i := 10) rfl)
theorem wd_22_11 : Cond.methodLink RX11 199 yX10_add ∈ wsL_law := wI_r22 _ (List.mem_of_getElem? (i := 11) rfl)
theorem wd_22_12 : Cond.instanceMethod yX10_add ∈ wsL_law := wI_r22 _ (List.mem_of_getElem? (i := 12) rfl)
theorem wd_22_13 : Cond.selects RX10 yX10_add yX10_add ∈ wsL_law := wI_r22 _ (List.mem_of_getElem? (i := 13) rfl)
theorem wd_22_14 : Cond.code yX10_add cX10_add 5 none ∈ wsL_law := wI_r22 _ (List.mem_of_getElem? (i := 14) rfl)
theorem wd_22_18 : Cond.code yX12_feed cX12_feed 5 (some .int) ∈ wsL_law := wI_r22 _ (List.mem_of_getElem? (i := 18) rfl)
theorem wd_22_19 : Cond.constantLong RX12 181 (8) ∈ wsL_law := wI_r22 _ (List.mem_of_getElem? (i := 19) rfl)
theorem wd_22_20 : Cond.fieldLink RX12 183 "OddPaymentsModel" "taped" "I" ∈ wsL_law := wI_r22 _ (List.mem_of_getElem? (i := 20) rfl)
theorem wd_22_21 : Cond.constantLong RX12 186 (255) ∈ wsL_law := wI_r22 _ (List.mem_of_getElem? (i := 21) rfl)
theorem wd_23_1 : Cond.code yX11_rules cX11_rules 3 (some .int) ∈ wsL_law := wI_r23 _ (List.mem_of_getElem? (i := 1) rfl)
theorem wd_23_2 : Cond.fieldLink RX11 207 "OddPayments$Reader" "wrong" "I" ∈ wsL_law := wI_r23 _ (List.mem_of_getElem? (i := 2) rfl)
theorem wd_23_3 : Cond.constant RX11 210 (-1000100) ∈ wsL_law := wI_r23 _ (List.mem_of_getElem? (i := 3) rfl)
theorem wd_23_4 : Cond.fieldLink RX11 211 "OddPayments$Reader" "wrongPlace" "I" ∈ wsL_law := wI_r23 _ (List.mem_of_getElem? (i := 4) rfl)
theorem wd_23_5 : Cond.fieldLink RX11 214 "OddPayments$Judge" "book" "LOddPayments$RuleBook;" ∈ wsL_law := wI_r23 _ (List.mem_of_getElem? (i := 5) rfl)
theorem wd_23_6 : Cond.fieldLink RX11 221 "OddPayments$RuleBook" "size" "I" ∈ wsL_law := wI_r23 _ (List.mem_of_getElem? (i := 6) rfl)
theorem wd_23_7 : Cond.methodLink RX11 203 yX6_read ∈ wsL_law := wI_r23 _ (List.mem_of_getElem? (i := 7) rfl)
theorem wd_23_8 : Cond.instanceMethod yX6_read ∈ wsL_law := wI_r23 _ (List.mem_of_getElem? (i := 8) rfl)
theorem wd_23_9 : Cond.selects RX6 yX6_read yX6_read ∈ wsL_law := wI_r23 _ (List.mem_of_getElem? (i := 9) rfl)
theorem wd_23_10 : Cond.code yX6_read cX6_read 3 (some .boolean) ∈ wsL_law := wI_r23 _ (List.mem_of_getElem? (i := 10) rfl)
theorem wd_23_11 : Cond.methodLink RX6 37 yX10_split ∈ wsL_law := wI_r23 _ (List.mem_of_getElem? (i := 11) rfl)
theorem wd_23_12 : Cond.instanceMethod yX10_split ∈ wsL_law := wI_r23 _ (List.mem_of_getElem? (i := 12) rfl)
theorem wd_23_13 : Cond.selects RX10 yX10_split yX10_split ∈ wsL_law := wI_r23 _ (List.mem_of_getElem? (i := 13) rfl)
theorem wd_23_14 : Cond.code yX10_split cX10_split 2 none ∈ wsL_law := wI_r23 _ (List.mem_of_getElem? (i := 14) rfl)
theorem wd_23_15 : Cond.methodLink RX10 38 Lib.Math.max.name ∈ wsL_law := wI_r23 _ (List.mem_of_getElem? (i := 15) rfl)
theorem wd_23_16 : Cond.static Lib.Math.max.name ∈ wsL_law := wI_r23 _ (List.mem_of_getElem? (i := 16) rfl)
theorem wd_23_17 : Cond.initialized "java/lang/Math" ∈ wsL_law := wI_r23 _ (List.mem_of_getElem? (i := 17) rfl)
theorem wd_23_18 : Cond.code Lib.Math.max.name Lib.Math.max.code 2 (some .int) ∈ wsL_law := wI_r23 _ (List.mem_of_getElem? (i := 18) rfl)
theorem wd_23_19 : Cond.methodLink RX10 30 yX10_endOf ∈ wsL_law := wI_r23 _ (List.mem_of_getElem? (i := 19) rfl)
theorem wd_23_20 : Cond.instanceMethod yX10_endOf ∈ wsL_law := wI_r23 _ (List.mem_of_getElem? (i := 20) rfl)
theorem wd_23_21 : Cond.selects RX10 yX10_endOf yX10_endOf ∈ wsL_law := wI_r23 _ (List.mem_of_getElem? (i := 21) rfl)
theorem wd_23_22 : Cond.code yX10_endOf cX10_endOf 3 (some .int) ∈ wsL_law := wI_r23 _ (List.mem_of_getElem? (i := 22) rfl)
theorem wd_23_23 : Cond.methodLink RX10 48 yX10_isLetter ∈ wsL_law := wI_r23 _ (List.mem_of_getElem? (i := 23) rfl)
theorem wd_24_0 : Cond.static yX10_isLetter ∈ wsL_law := wI_r24 _ (List.mem_of_getElem? (i := 0) rfl)
theorem wd_24_1 : Cond.code yX10_isLetter cX10_isLetter 1 (some .boolean) ∈ wsL_law := wI_r24 _ (List.mem_of_getElem? (i := 1) rfl)
theorem wd_24_2 : Cond.methodLink RX10 52 yX10_isFigure ∈ wsL_law := wI_r24 _ (List.mem_of_getElem? (i := 2) rfl)
theorem wd_24_3 : Cond.static yX10_isFigure ∈ wsL_law := wI_r24 _ (List.mem_of_getElem? (i := 3) rfl)
theorem wd_24_4 : Cond.code yX10_isFigure cX10_isFigure 1 (some .boolean) ∈ wsL_law := wI_r24 _ (List.mem_of_getElem? (i := 4) rfl)
theorem wd_24_5 : Cond.methodLink RX10 34 yX10_takeToken ∈ wsL_law := wI_r24 _ (List.mem_of_getElem? (i := 5) rfl)
theorem wd_24_6 : Cond.instanceMethod yX10_takeToken ∈ wsL_law := wI_r24 _ (List.mem_of_getElem? (i := 6) rfl)
theorem wd_24_7 : Cond.selects RX10 yX10_takeToken yX10_takeToken ∈ wsL_law := wI_r24 _ (List.mem_of_getElem? (i := 7) rfl)
theorem wd_24_8 : Cond.code yX10_takeToken cX10_takeToken 4 none ∈ wsL_law := wI_r24 _ (List.mem_of_getElem? (i := 8) rfl)
theorem wd_24_9 : Cond.methodLink RX10 44 yX10_keep ∈ wsL_law := wI_r24 _ (List.mem_of_getElem? (i := 9) rfl)
theorem wd_24_10 : Cond.instanceMethod yX10_keep ∈ wsL_law := wI_r24 _ (List.mem_of_getElem? (i := 10) rfl)
theorem wd_24_11 : Cond.selects RX10 yX10_keep yX10_keep ∈ wsL_law := wI_r24 _ (List.mem_of_getElem? (i := 11) rfl)
theorem wd_24_12 : Cond.code yX10_keep cX10_keep 4 none ∈ wsL_law := wI_r24 _ (List.mem_of_getElem? (i := 12) rfl)
theorem wd_24_13 : Cond.methodLink RX10 55 yX10_wordAt ∈ wsL_law := wI_r24 _ (List.mem_of_getElem? (i := 13) rfl)
theorem wd_24_14 : Cond.instanceMethod yX10_wordAt ∈ wsL_law := wI_r24 _ (List.mem_of_getElem? (i := 14) rfl)
theorem wd_24_15 : Cond.selects RX10 yX10_wordAt yX10_wordAt ∈ wsL_law := wI_r24 _ (List.mem_of_getElem? (i := 15) rfl)
theorem wd_24_16 : Cond.code yX10_wordAt cX10_wordAt 4 (some .int) ∈ wsL_law := wI_r24 _ (List.mem_of_getElem? (i := 16) rfl)
theorem wd_24_17 : Cond.methodLink RX10 61 yX10_isSpelt ∈ wsL_law := wI_r24 _ (List.mem_of_getElem? (i := 17) rfl)
theorem wd_24_18 : Cond.instanceMethod yX10_isSpelt ∈ wsL_law := wI_r24 _ (List.mem_of_getElem? (i := 18) rfl)
theorem wd_24_19 : Cond.selects RX10 yX10_isSpelt yX10_isSpelt ∈ wsL_law := wI_r24 _ (List.mem_of_getElem? (i := 19) rfl)
theorem wd_24_20 : Cond.code yX10_isSpelt cX10_isSpelt 5 (some .boolean) ∈ wsL_law := wI_r24 _ (List.mem_of_getElem? (i := 20) rfl)
theorem wd_26_22 : Cond.methodLink RX10 58 yX10_numberAt ∈ wsL_law := wI_r26 _ (List.mem_of_getElem? (i := 22) rfl)
theorem wd_26_23 : Cond.instanceMethod yX10_numberAt ∈ wsL_law := wI_r26 _ (List.mem_of_getElem? (i := 23) rfl)
theorem wd_27_0 : Cond.selects RX10 yX10_numberAt yX10_numberAt ∈ wsL_law := wI_r27 _ (List.mem_of_getElem? (i := 0) rfl)
theorem wd_27_1 : Cond.code yX10_numberAt cX10_numberAt 5 (some .int) ∈ wsL_law := wI_r27 _ (List.mem_of_getElem? (i := 1) rfl)
theorem wd_27_2 : Cond.methodLink RX6 40 yX8_clear ∈ wsL_law := wI_r27 _ (List.mem_of_getElem? (i := 2) rfl)
theorem wd_27_3 : Cond.methodLink RX6 45 yX6_goTo ∈ wsL_law := wI_r27 _ (List.mem_of_getElem? (i := 3) rfl)
theorem wd_27_4 : Cond.instanceMethod yX6_goTo ∈ wsL_law := wI_r27 _ (List.mem_of_getElem? (i := 4) rfl)
theorem wd_27_5 : Cond.selects RX6 yX6_goTo yX6_goTo ∈ wsL_law := wI_r27 _ (List.mem_of_getElem? (i := 5) rfl)
theorem wd_27_6 : Cond.code yX6_goTo cX6_goTo 2 none ∈ wsL_law := wI_r27 _ (List.mem_of_getElem? (i := 6) rfl)
theorem wd_27_7 : Cond.fieldLink RX6 53 "OddPayments$Tape" "tokens" "[I" ∈ wsL_law := wI_r27 _ (List.mem_of_getElem? (i := 7) rfl)
theorem wd_27_8 : Cond.fieldLink RX6 57 "OddPayments$Tape" "values" "[I" ∈ wsL_law := wI_r27 _ (List.mem_of_getElem? (i := 8) rfl)
theorem wd_27_9 : Cond.methodLink RX6 49 yX6_readStatement ∈ wsL_law := wI_r27 _ (List.mem_of_getElem? (i := 9) rfl)
theorem wd_27_10 : Cond.instanceMethod yX6_readStatement ∈ wsL_law := wI_r27 _ (List.mem_of_getElem? (i := 10) rfl)
theorem wd_27_11 : Cond.selects RX6 yX6_readStatement yX6_readStatement ∈ wsL_law := wI_r27 _ (List.mem_of_getElem? (i := 11) rfl)
theorem wd_27_12 : Cond.code yX6_readStatement cX6_readStatement 1 (some .boolean) ∈ wsL_law := wI_r27 _ (List.mem_of_getElem? (i := 12) rfl)
theorem wd_27_13 : Cond.methodLink RX6 64 yX6_readLimit ∈ wsL_law := wI_r27 _ (List.mem_of_getElem? (i := 13) rfl)
theorem wd_27_14 : Cond.instanceMethod yX6_readLimit ∈ wsL_law := wI_r27 _ (List.mem_of_getElem? (i := 14) rfl)
theorem wd_27_15 : Cond.selects RX6 yX6_readLimit yX6_readLimit ∈ wsL_law := wI_r27 _ (List.mem_of_getElem? (i := 15) rfl)
theorem wd_27_16 : Cond.code yX6_readLimit cX6_readLimit 3 (some .boolean) ∈ wsL_law := wI_r27 _ (List.mem_of_getElem? (i := 16) rfl)
theorem wd_27_17 : Cond.constant RX6 80 (100000) ∈ wsL_law := wI_r27 _ (List.mem_of_getElem? (i := 17) rfl)
theorem wd_27_18 : Cond.fieldLink RX6 85 "OddPayments$RuleBook" "limits" "[I" ∈ wsL_law := wI_r27 _ (List.mem_of_getElem? (i := 18) rfl)
theorem wd_27_19 : Cond.methodLink RX6 77 yX6_goOn ∈ wsL_law := wI_r27 _ (List.mem_of_getElem? (i := 19) rfl)
theorem wd_27_20 : Cond.instanceMethod yX6_goOn ∈ wsL_law := wI_r27 _ (List.mem_of_getElem? (i := 20) rfl)
theorem wd_27_21 : Cond.selects RX6 yX6_goOn yX6_goOn ∈ wsL_law := wI_r27 _ (List.mem_of_getElem? (i := 21) rfl)
theorem wd_27_22 : Cond.code yX6_goOn cX6_goOn 1 none ∈ wsL_law := wI_r27 _ (List.mem_of_getElem? (i := 22) rfl)
theorem wd_27_23 : Cond.methodLink RX6 81 yX6_hasNumber ∈ wsL_law := wI_r27 _ (List.mem_of_getElem? (i := 23) rfl)
theorem wd_28_0 : Cond.instanceMethod yX6_hasNumber ∈ wsL_law := wI_r28 _ (List.mem_of_getElem? (i := 0) rfl)
theorem wd_28_1 : Cond.selects RX6 yX6_hasNumber yX6_hasNumber ∈ wsL_law := wI_r28 _ (List.mem_of_getElem? (i := 1) rfl)
theorem wd_28_2 : Cond.code yX6_hasNumber cX6_hasNumber 3 (some .boolean) ∈ wsL_law := wI_r28 _ (List.mem_of_getElem? (i := 2) rfl)
theorem wd_28_3 : Cond.methodLink RX6 74 yX6_fail ∈ wsL_law := wI_r28 _ (List.mem_of_getElem? (i := 3) rfl)
theorem wd_28_4 : Cond.instanceMethod yX6_fail ∈ wsL_law := wI_r28 _ (List.mem_of_getElem? (i := 4) rfl)
theorem wd_28_5 : Cond.selects RX6 yX6_fail yX6_fail ∈ wsL_law := wI_r28 _ (List.mem_of_getElem? (i := 5) rfl)
theorem wd_28_6 : Cond.code yX6_fail cX6_fail 2 (some .boolean) ∈ wsL_law := wI_r28 _ (List.mem_of_getElem? (i := 6) rfl)
theorem wd_28_7 : Cond.fieldLink RX6 105 "OddPayments$Tape" "places" "[I" ∈ wsL_law := wI_r28 _ (List.mem_of_getElem? (i := 7) rfl)
theorem wd_28_8 : Cond.methodLink RX6 88 yX6_passEnd ∈ wsL_law := wI_r28 _ (List.mem_of_getElem? (i := 8) rfl)
theorem wd_28_9 : Cond.instanceMethod yX6_passEnd ∈ wsL_law := wI_r28 _ (List.mem_of_getElem? (i := 9) rfl)
theorem wd_28_10 : Cond.selects RX6 yX6_passEnd yX6_passEnd ∈ wsL_law := wI_r28 _ (List.mem_of_getElem? (i := 10) rfl)
theorem wd_28_11 : Cond.code yX6_passEnd cX6_passEnd 1 (some .boolean) ∈ wsL_law := wI_r28 _ (List.mem_of_getElem? (i := 11) rfl)
theorem wd_28_12 : Cond.methodLink RX6 68 yX6_isWord ∈ wsL_law := wI_r28 _ (List.mem_of_getElem? (i := 12) rfl)
theorem wd_28_13 : Cond.instanceMethod yX6_isWord ∈ wsL_law := wI_r28 _ (List.mem_of_getElem? (i := 13) rfl)
theorem wd_28_14 : Cond.selects RX6 yX6_isWord yX6_isWord ∈ wsL_law := wI_r28 _ (List.mem_of_getElem? (i := 14) rfl)
theorem wd_28_15 : Cond.code yX6_isWord cX6_isWord 2 (some .boolean) ∈ wsL_law := wI_r28 _ (List.mem_of_getElem? (i := 15) rfl)
theorem wd_28_16 : Cond.methodLink RX6 71 yX6_readRule ∈ wsL_law := wI_r28 _ (List.mem_of_getElem? (i := 16) rfl)
theorem wd_28_17 : Cond.instanceMethod yX6_readRule ∈ wsL_law := wI_r28 _ (List.mem_of_getElem? (i := 17) rfl)
theorem wd_28_18 : Cond.selects RX6 yX6_readRule yX6_readRule ∈ wsL_law := wI_r28 _ (List.mem_of_getElem? (i := 18) rfl)
theorem wd_28_19 : Cond.code yX6_readRule cX6_readRule 2 (some .boolean) ∈ wsL_law := wI_r28 _ (List.mem_of_getElem? (i := 19) rfl)
theorem wd_28_20 : Cond.fieldLink RX6 91 "OddPayments$RuleBook" "size" "I" ∈ wsL_law := wI_r28 _ (List.mem_of_getElem? (i := 20) rfl)
theorem wd_28_21 : Cond.methodLink RX6 94 yX8_addRule ∈ wsL_law := wI_r28 _ (List.mem_of_getElem? (i := 21) rfl)
theorem wd_28_22 : Cond.instanceMethod yX8_addRule ∈ wsL_law := wI_r28 _ (List.mem_of_getElem? (i := 22) rfl)
theorem wd_28_23 : Cond.selects RX8 yX8_addRule yX8_addRule ∈ wsL_law := wI_r28 _ (List.mem_of_getElem? (i := 23) rfl)
theorem wd_29_0 : Cond.code yX8_addRule cX8_addRule 2 none ∈ wsL_law := wI_r29 _ (List.mem_of_getElem? (i := 0) rfl)
theorem wd_29_1 : Cond.methodLink RX6 97 yX6_readTest ∈ wsL_law := wI_r29 _ (List.mem_of_getElem? (i := 1) rfl)
theorem wd_29_2 : Cond.instanceMethod yX6_readTest ∈ wsL_law := wI_r29 _ (List.mem_of_getElem? (i := 2) rfl)
theorem wd_29_3 : Cond.selects RX6 yX6_readTest yX6_readTest ∈ wsL_law := wI_r29 _ (List.mem_of_getElem? (i := 3) rfl)
theorem wd_29_4 : Cond.code yX6_readTest cX6_readTest 3 (some .boolean) ∈ wsL_law := wI_r29 _ (List.mem_of_getElem? (i := 4) rfl)
theorem wd_29_5 : Cond.constant RX6 100 (999999) ∈ wsL_law := wI_r29 _ (List.mem_of_getElem? (i := 5) rfl)
theorem wd_29_6 : Cond.methodLink RX6 101 yX8_addTest ∈ wsL_law := wI_r29 _ (List.mem_of_getElem? (i := 6) rfl)
theorem wd_29_7 : Cond.instanceMethod yX8_addTest ∈ wsL_law := wI_r29 _ (List.mem_of_getElem? (i := 7) rfl)
theorem wd_29_8 : Cond.selects RX8 yX8_addTest yX8_addTest ∈ wsL_law := wI_r29 _ (List.mem_of_getElem? (i := 8) rfl)
theorem wd_29_9 : Cond.code yX8_addTest cX8_addTest 6 none ∈ wsL_law := wI_r29 _ (List.mem_of_getElem? (i := 9) rfl)
theorem wd_29_10 : Cond.methodLink RX11 217 yX2_follow ∈ wsL_law := wI_r29 _ (List.mem_of_getElem? (i := 10) rfl)
theorem wd_29_11 : Cond.instanceMethod yX2_follow ∈ wsL_law := wI_r29 _ (List.mem_of_getElem? (i := 11) rfl)
theorem wd_29_12 : Cond.selects RX2 yX2_follow yX2_follow ∈ wsL_law := wI_r29 _ (List.mem_of_getElem? (i := 12) rfl)
theorem wd_29_13 : Cond.code yX2_follow cX2_follow 2 none ∈ wsL_law := wI_r29 _ (List.mem_of_getElem? (i := 13) rfl)
theorem wd_29_17 : Cond.code yX12_rules cX12_rules 3 (some .int) ∈ wsL_law := wI_r29 _ (List.mem_of_getElem? (i := 17) rfl)
theorem wd_29_18 : Cond.fieldLink RX12 188 "OddPaymentsModel" "size" "I" ∈ wsL_law := wI_r29 _ (List.mem_of_getElem? (i := 18) rfl)
theorem wd_29_19 : Cond.fieldLink RX12 191 "OddPaymentsModel" "cursor" "I" ∈ wsL_law := wI_r29 _ (List.mem_of_getElem? (i := 19) rfl)
theorem wd_29_20 : Cond.fieldLink RX12 212 "OddPaymentsModel" "fault" "I" ∈ wsL_law := wI_r29 _ (List.mem_of_getElem? (i := 20) rfl)
theorem wd_29_21 : Cond.fieldLink RX12 253 "OddPaymentsModel" "newRules" "I" ∈ wsL_law := wI_r29 _ (List.mem_of_getElem? (i := 21) rfl)
theorem wd_29_22 : Cond.fieldLink RX12 200 "OddPaymentsModel" "token" "I" ∈ wsL_law := wI_r29 _ (List.mem_of_getElem? (i := 22) rfl)
theorem wd_29_23 : Cond.fieldLink RX12 288 "OddPaymentsModel" "latest" "I" ∈ wsL_law := wI_r29 _ (List.mem_of_getElem? (i := 23) rfl)
theorem wd_30_0 : Cond.constant RX12 291 (-1000100) ∈ wsL_law := wI_r30 _ (List.mem_of_getElem? (i := 0) rfl)
theorem wd_30_1 : Cond.fieldLink RX12 215 "OddPaymentsModel" "faultAt" "I" ∈ wsL_law := wI_r30 _ (List.mem_of_getElem? (i := 1) rfl)
theorem wd_30_2 : Cond.fieldLink RX12 292 "OddPaymentsModel" "rules" "I" ∈ wsL_law := wI_r30 _ (List.mem_of_getElem? (i := 2) rfl)
theorem wd_30_3 : Cond.methodLink RX12 222 yX12_step ∈ wsL_law := wI_r30 _ (List.mem_of_getElem? (i := 3) rfl)
theorem wd_30_4 : Cond.instanceMethod yX12_step ∈ wsL_law := wI_r30 _ (List.mem_of_getElem? (i := 4) rfl)
theorem wd_30_5 : Cond.selects RX12 yX12_step yX12_step ∈ wsL_law := wI_r30 _ (List.mem_of_getElem? (i := 5) rfl)
theorem wd_30_6 : Cond.code yX12_step cX12_step 2 none ∈ wsL_law := wI_r30 _ (List.mem_of_getElem? (i := 6) rfl)
theorem wd_30_7 : Cond.fieldLink RX12 197 "OddPaymentsModel" "from" "I" ∈ wsL_law := wI_r30 _ (List.mem_of_getElem? (i := 7) rfl)
theorem wd_30_8 : Cond.fieldLink RX12 209 "OddPaymentsModel" "till" "I" ∈ wsL_law := wI_r30 _ (List.mem_of_getElem? (i := 8) rfl)
theorem wd_30_9 : Cond.methodLink RX12 194 yX12_byteAt ∈ wsL_law := wI_r30 _ (List.mem_of_getElem? (i := 9) rfl)
theorem wd_30_10 : Cond.instanceMethod yX12_byteAt ∈ wsL_law := wI_r30 _ (List.mem_of_getElem? (i := 10) rfl)
theorem wd_30_11 : Cond.selects RX12 yX12_byteAt yX12_byteAt ∈ wsL_law := wI_r30 _ (List.mem_of_getElem? (i := 11) rfl)
theorem wd_30_12 : Cond.code yX12_byteAt cX12_byteAt 2 (some .int) ∈ wsL_law := wI_r30 _ (List.mem_of_getElem? (i := 12) rfl)
theorem wd_30_13 : Cond.methodLink RX12 203 yX12_isLetter ∈ wsL_law := wI_r30 _ (List.mem_of_getElem? (i := 13) rfl)
theorem wd_30_14 : Cond.static yX12_isLetter ∈ wsL_law := wI_r30 _ (List.mem_of_getElem? (i := 14) rfl)
theorem wd_30_15 : Cond.code yX12_isLetter cX12_isLetter 1 (some .boolean) ∈ wsL_law := wI_r30 _ (List.mem_of_getElem? (i := 15) rfl)
theorem wd_30_16 : Cond.methodLink RX12 206 yX12_isFigure ∈ wsL_law := wI_r30 _ (List.mem_of_getElem? (i := 16) rfl)
theorem wd_30_17 : Cond.static yX12_isFigure ∈ wsL_law := wI_r30 _ (List.mem_of_getElem? (i := 17) rfl)
theorem wd_30_18 : Cond.code yX12_isFigure cX12_isFigure 1 (some .boolean) ∈ wsL_law := wI_r30 _ (List.mem_of_getElem? (i := 18) rfl)
theorem wd_30_19 : Cond.methodLink RX12 285 yX12_readLine ∈ wsL_law := wI_r30 _ (List.mem_of_getElem? (i := 19) rfl)
theorem wd_30_20 : Cond.instanceMethod yX12_readLine ∈ wsL_law := wI_r30 _ (List.mem_of_getElem? (i := 20) rfl)
theorem wd_30_21 : Cond.selects RX12 yX12_readLine yX12_readLine ∈ wsL_law := wI_r30 _ (List.mem_of_getElem? (i := 21) rfl)
theorem wd_30_22 : Cond.code yX12_readLine cX12_readLine 5 none ∈ wsL_law := wI_r30 _ (List.mem_of_getElem? (i := 22) rfl)
theorem wd_30_23 : Cond.constantLong RX12 267 (1920298085) ∈ wsL_law := wI_r30 _ (List.mem_of_getElem? (i := 23) rfl)
theorem wd_31_0 : Cond.constantLong RX12 269 (131294707347319) ∈ wsL_law := wI_r31 _ (List.mem_of_getElem? (i := 0) rfl)
theorem wd_31_1 : Cond.constantLong RX12 271 (431197741433) ∈ wsL_law := wI_r31 _ (List.mem_of_getElem? (i := 1) rfl)
theorem wd_31_2 : Cond.constantLong RX12 273 (1819242347) ∈ wsL_law := wI_r31 _ (List.mem_of_getElem? (i := 2) rfl)
theorem wd_31_3 : Cond.constantLong RX12 275 (422726034283) ∈ wsL_law := wI_r31 _ (List.mem_of_getElem? (i := 3) rfl)
theorem wd_31_4 : Cond.constant RX12 277 (100000) ∈ wsL_law := wI_r31 _ (List.mem_of_getElem? (i := 4) rfl)
theorem wd_31_5 : Cond.constantLong RX12 278 (26982) ∈ wsL_law := wI_r31 _ (List.mem_of_getElem? (i := 5) rfl)
theorem wd_31_6 : Cond.constantLong RX12 283 (6385252) ∈ wsL_law := wI_r31 _ (List.mem_of_getElem? (i := 6) rfl)
theorem wd_31_7 : Cond.methodLink RX12 229 yX12_word ∈ wsL_law := wI_r31 _ (List.mem_of_getElem? (i := 7) rfl)
theorem wd_31_8 : Cond.instanceMethod yX12_word ∈ wsL_law := wI_r31 _ (List.mem_of_getElem? (i := 8) rfl)
theorem wd_31_9 : Cond.selects RX12 yX12_word yX12_word ∈ wsL_law := wI_r31 _ (List.mem_of_getElem? (i := 9) rfl)
theorem wd_31_10 : Cond.code yX12_word cX12_word 4 (some .long) ∈ wsL_law := wI_r31 _ (List.mem_of_getElem? (i := 10) rfl)
theorem wd_31_11 : Cond.methodLink RX12 218 yX12_bad ∈ wsL_law := wI_r31 _ (List.mem_of_getElem? (i := 11) rfl)
theorem wd_31_12 : Cond.instanceMethod yX12_bad ∈ wsL_law := wI_r31 _ (List.mem_of_getElem? (i := 12) rfl)
theorem wd_31_13 : Cond.selects RX12 yX12_bad yX12_bad ∈ wsL_law := wI_r31 _ (List.mem_of_getElem? (i := 13) rfl)
theorem wd_31_14 : Cond.code yX12_bad cX12_bad 2 none ∈ wsL_law := wI_r31 _ (List.mem_of_getElem? (i := 14) rfl)
theorem wd_31_15 : Cond.methodLink RX12 225 yX12_need ∈ wsL_law := wI_r31 _ (List.mem_of_getElem? (i := 15) rfl)
theorem wd_31_16 : Cond.instanceMethod yX12_need ∈ wsL_law := wI_r31 _ (List.mem_of_getElem? (i := 16) rfl)
theorem wd_31_17 : Cond.selects RX12 yX12_need yX12_need ∈ wsL_law := wI_r31 _ (List.mem_of_getElem? (i := 17) rfl)
theorem wd_31_18 : Cond.code yX12_need cX12_need 2 none ∈ wsL_law := wI_r31 _ (List.mem_of_getElem? (i := 18) rfl)
theorem wd_31_19 : Cond.methodLink RX12 264 yX12_numberIn ∈ wsL_law := wI_r31 _ (List.mem_of_getElem? (i := 19) rfl)
theorem wd_31_20 : Cond.instanceMethod yX12_numberIn ∈ wsL_law := wI_r31 _ (List.mem_of_getElem? (i := 20) rfl)
theorem wd_31_21 : Cond.selects RX12 yX12_numberIn yX12_numberIn ∈ wsL_law := wI_r31 _ (List.mem_of_getElem? (i := 21) rfl)
theorem wd_31_22 : Cond.code yX12_numberIn cX12_numberIn 5 (some .int) ∈ wsL_law := wI_r31 _ (List.mem_of_getElem? (i := 22) rfl)
theorem wd_31_23 : Cond.methodLink RX12 280 yX12_readTest ∈ wsL_law := wI_r31 _ (List.mem_of_getElem? (i := 23) rfl)
theorem wd_32_0 : Cond.instanceMethod yX12_readTest ∈ wsL_law := wI_r32 _ (List.mem_of_getElem? (i := 0) rfl)
theorem wd_32_1 : Cond.selects RX12 yX12_readTest yX12_readTest ∈ wsL_law := wI_r32 _ (List.mem_of_getElem? (i := 1) rfl)
theorem wd_32_2 : Cond.code yX12_readTest cX12_readTest 5 none ∈ wsL_law := wI_r32 _ (List.mem_of_getElem? (i := 2) rfl)
theorem wd_32_3 : Cond.constant RX12 263 (999999) ∈ wsL_law := wI_r32 _ (List.mem_of_getElem? (i := 3) rfl)
theorem wd_32_4 : Cond.methodLink RX12 256 yX12_featureOfWord ∈ wsL_law := wI_r32 _ (List.mem_of_getElem? (i := 4) rfl)
theorem wd_32_5 : Cond.instanceMethod yX12_featureOfWord ∈ wsL_law := wI_r32 _ (List.mem_of_getElem? (i := 5) rfl)
theorem wd_32_6 : Cond.selects RX12 yX12_featureOfWord yX12_featureOfWord ∈ wsL_law := wI_r32 _ (List.mem_of_getElem? (i := 6) rfl)
theorem wd_32_7 : Cond.code yX12_featureOfWord cX12_featureOfWord 3 (some .int) ∈ wsL_law := wI_r32 _ (List.mem_of_getElem? (i := 7) rfl)
theorem wd_32_8 : Cond.constantLong RX12 233 (107122649296500) ∈ wsL_law := wI_r32 _ (List.mem_of_getElem? (i := 8) rfl)
theorem wd_32_9 : Cond.constantLong RX12 235 (1936683636) ∈ wsL_law := wI_r32 _ (List.mem_of_getElem? (i := 9) rfl)
theorem wd_32_10 : Cond.constantLong RX12 237 (1752135026) ∈ wsL_law := wI_r32 _ (List.mem_of_getElem? (i := 10) rfl)
theorem wd_32_11 : Cond.constantLong RX12 239 (427071729268) ∈ wsL_law := wI_r32 _ (List.mem_of_getElem? (i := 11) rfl)
theorem wd_32_12 : Cond.constantLong RX12 241 (7566701) ∈ wsL_law := wI_r32 _ (List.mem_of_getElem? (i := 12) rfl)
theorem wd_32_13 : Cond.constantLong RX12 243 (123563950826867) ∈ wsL_law := wI_r32 _ (List.mem_of_getElem? (i := 13) rfl)
theorem wd_32_14 : Cond.constantLong RX12 245 (1936024942) ∈ wsL_law := wI_r32 _ (List.mem_of_getElem? (i := 14) rfl)
theorem wd_32_15 : Cond.constantLong RX12 247 (491261290863) ∈ wsL_law := wI_r32 _ (List.mem_of_getElem? (i := 15) rfl)
theorem wd_32_16 : Cond.constantLong RX12 249 (6709618) ∈ wsL_law := wI_r32 _ (List.mem_of_getElem? (i := 16) rfl)
theorem wd_32_17 : Cond.constantLong RX12 251 (1768846447) ∈ wsL_law := wI_r32 _ (List.mem_of_getElem? (i := 17) rfl)
theorem wd_32_18 : Cond.methodLink RX12 260 yX12_is ∈ wsL_law := wI_r32 _ (List.mem_of_getElem? (i := 18) rfl)
theorem wd_32_19 : Cond.instanceMethod yX12_is ∈ wsL_law := wI_r32 _ (List.mem_of_getElem? (i := 19) rfl)
theorem wd_32_20 : Cond.selects RX12 yX12_is yX12_is ∈ wsL_law := wI_r32 _ (List.mem_of_getElem? (i := 20) rfl)
theorem wd_32_21 : Cond.code yX12_is cX12_is 2 (some .boolean) ∈ wsL_law := wI_r32 _ (List.mem_of_getElem? (i := 21) rfl)
theorem wd_33_1 : Cond.code yX11_fault cX11_fault 1 (some .int) ∈ wsL_law := wI_r33 _ (List.mem_of_getElem? (i := 1) rfl)
theorem wd_33_5 : Cond.code yX12_fault cX12_fault 1 (some .int) ∈ wsL_law := wI_r33 _ (List.mem_of_getElem? (i := 5) rfl)
theorem wd_33_9 : Cond.code yX11_rule cX11_rule 2 (some .int) ∈ wsL_law := wI_r33 _ (List.mem_of_getElem? (i := 9) rfl)
theorem wd_33_10 : Cond.fieldLink RX11 222 "OddPayments$RuleBook" "limits" "[I" ∈ wsL_law := wI_r33 _ (List.mem_of_getElem? (i := 10) rfl)
theorem wd_33_14 : Cond.code yX12_rule cX12_rule 2 (some .int) ∈ wsL_law := wI_r33 _ (List.mem_of_getElem? (i := 14) rfl)
theorem wd_33_18 : Cond.code yX11_judged cX11_judged 5 (some .int) ∈ wsL_law := wI_r33 _ (List.mem_of_getElem? (i := 18) rfl)
theorem wd_33_19 : Cond.methodLink RX11 225 yX2_scoreOf ∈ wsL_law := wI_r33 _ (List.mem_of_getElem? (i := 19) rfl)
theorem wd_33_20 : Cond.instanceMethod yX2_scoreOf ∈ wsL_law := wI_r33 _ (List.mem_of_getElem? (i := 20) rfl)
theorem wd_33_21 : Cond.selects RX2 yX2_scoreOf yX2_scoreOf ∈ wsL_law := wI_r33 _ (List.mem_of_getElem? (i := 21) rfl)
theorem wd_33_22 : Cond.code yX2_scoreOf cX2_scoreOf 3 (some .int) ∈ wsL_law := wI_r33 _ (List.mem_of_getElem? (i := 22) rfl)
theorem wd_33_23 : Cond.methodLink RX2 63 yX2_slotOf ∈ wsL_law := wI_r33 _ (List.mem_of_getElem? (i := 23) rfl)
theorem wd_34_0 : Cond.instanceMethod yX2_slotOf ∈ wsL_law := wI_r34 _ (List.mem_of_getElem? (i := 0) rfl)
theorem wd_34_1 : Cond.selects RX2 yX2_slotOf yX2_slotOf ∈ wsL_law := wI_r34 _ (List.mem_of_getElem? (i := 1) rfl)
theorem wd_34_2 : Cond.code yX2_slotOf cX2_slotOf 4 (some .int) ∈ wsL_law := wI_r34 _ (List.mem_of_getElem? (i := 2) rfl)
theorem wd_34_3 : Cond.fieldLink RX2 71 "OddPayments$Payment" "number" "I" ∈ wsL_law := wI_r34 _ (List.mem_of_getElem? (i := 3) rfl)
theorem wd_34_4 : Cond.fieldLink RX2 78 "OddPayments$Row" "values" "[I" ∈ wsL_law := wI_r34 _ (List.mem_of_getElem? (i := 4) rfl)
theorem wd_34_5 : Cond.methodLink RX2 81 yX8_thatHold ∈ wsL_law := wI_r34 _ (List.mem_of_getElem? (i := 5) rfl)
theorem wd_34_6 : Cond.instanceMethod yX8_thatHold ∈ wsL_law := wI_r34 _ (List.mem_of_getElem? (i := 6) rfl)
theorem wd_34_7 : Cond.selects RX8 yX8_thatHold yX8_thatHold ∈ wsL_law := wI_r34 _ (List.mem_of_getElem? (i := 7) rfl)
theorem wd_34_8 : Cond.code yX8_thatHold cX8_thatHold 4 (some .int) ∈ wsL_law := wI_r34 _ (List.mem_of_getElem? (i := 8) rfl)
theorem wd_34_9 : Cond.methodLink RX8 37 yX8_holds ∈ wsL_law := wI_r34 _ (List.mem_of_getElem? (i := 9) rfl)
theorem wd_34_10 : Cond.instanceMethod yX8_holds ∈ wsL_law := wI_r34 _ (List.mem_of_getElem? (i := 10) rfl)
theorem wd_34_11 : Cond.selects RX8 yX8_holds yX8_holds ∈ wsL_law := wI_r34 _ (List.mem_of_getElem? (i := 11) rfl)
theorem wd_34_12 : Cond.code yX8_holds cX8_holds 7 (some .boolean) ∈ wsL_law := wI_r34 _ (List.mem_of_getElem? (i := 12) rfl)
theorem wd_34_13 : Cond.methodLink RX2 85 yX8_weigh ∈ wsL_law := wI_r34 _ (List.mem_of_getElem? (i := 13) rfl)
theorem wd_34_14 : Cond.instanceMethod yX8_weigh ∈ wsL_law := wI_r34 _ (List.mem_of_getElem? (i := 14) rfl)
theorem wd_34_15 : Cond.selects RX8 yX8_weigh yX8_weigh ∈ wsL_law := wI_r34 _ (List.mem_of_getElem? (i := 15) rfl)
theorem wd_34_16 : Cond.code yX8_weigh cX8_weigh 4 (some .int) ∈ wsL_law := wI_r34 _ (List.mem_of_getElem? (i := 16) rfl)
theorem wd_34_17 : Cond.methodLink RX11 229 yX2_actOf ∈ wsL_law := wI_r34 _ (List.mem_of_getElem? (i := 17) rfl)
theorem wd_34_18 : Cond.instanceMethod yX2_actOf ∈ wsL_law := wI_r34 _ (List.mem_of_getElem? (i := 18) rfl)
theorem wd_34_19 : Cond.selects RX2 yX2_actOf yX2_actOf ∈ wsL_law := wI_r34 _ (List.mem_of_getElem? (i := 19) rfl)
theorem wd_34_20 : Cond.code yX2_actOf cX2_actOf 3 (some .int) ∈ wsL_law := wI_r34 _ (List.mem_of_getElem? (i := 20) rfl)
theorem wd_34_21 : Cond.methodLink RX2 67 yX8_actAt ∈ wsL_law := wI_r34 _ (List.mem_of_getElem? (i := 21) rfl)
theorem wd_34_22 : Cond.instanceMethod yX8_actAt ∈ wsL_law := wI_r34 _ (List.mem_of_getElem? (i := 22) rfl)
theorem wd_34_23 : Cond.selects RX8 yX8_actAt yX8_actAt ∈ wsL_law := wI_r34 _ (List.mem_of_getElem? (i := 23) rfl)
theorem wd_35_0 : Cond.code yX8_actAt cX8_actAt 2 (some .int) ∈ wsL_law := wI_r35 _ (List.mem_of_getElem? (i := 0) rfl)
theorem wd_35_1 : Cond.methodLink RX11 232 yX2_heldBy ∈ wsL_law := wI_r35 _ (List.mem_of_getElem? (i := 1) rfl)
theorem wd_35_2 : Cond.instanceMethod yX2_heldBy ∈ wsL_law := wI_r35 _ (List.mem_of_getElem? (i := 2) rfl)
theorem wd_35_3 : Cond.selects RX2 yX2_heldBy yX2_heldBy ∈ wsL_law := wI_r35 _ (List.mem_of_getElem? (i := 3) rfl)
theorem wd_35_4 : Cond.code yX2_heldBy cX2_heldBy 3 (some .int) ∈ wsL_law := wI_r35 _ (List.mem_of_getElem? (i := 4) rfl)
theorem wd_35_5 : Cond.methodLink RX11 235 yX2_whyOf ∈ wsL_law := wI_r35 _ (List.mem_of_getElem? (i := 5) rfl)
theorem wd_35_6 : Cond.instanceMethod yX2_whyOf ∈ wsL_law := wI_r35 _ (List.mem_of_getElem? (i := 6) rfl)
theorem wd_35_7 : Cond.selects RX2 yX2_whyOf yX2_whyOf ∈ wsL_law := wI_r35 _ (List.mem_of_getElem? (i := 7) rfl)
theorem wd_35_8 : Cond.code yX2_whyOf cX2_whyOf 4 (some .int) ∈ wsL_law := wI_r35 _ (List.mem_of_getElem? (i := 8) rfl)
theorem wd_35_9 : Cond.fieldLink RX2 102 "OddPayments$RuleBook" "limits" "[I" ∈ wsL_law := wI_r35 _ (List.mem_of_getElem? (i := 9) rfl)
theorem wd_35_10 : Cond.methodLink RX2 96 yX2_actOf ∈ wsL_law := wI_r35 _ (List.mem_of_getElem? (i := 10) rfl)
theorem wd_35_11 : Cond.methodLink RX2 99 yX2_heldBy ∈ wsL_law := wI_r35 _ (List.mem_of_getElem? (i := 11) rfl)
theorem wd_35_12 : Cond.methodLink RX2 105 yX8_fewest ∈ wsL_law := wI_r35 _ (List.mem_of_getElem? (i := 12) rfl)
theorem wd_35_13 : Cond.instanceMethod yX8_fewest ∈ wsL_law := wI_r35 _ (List.mem_of_getElem? (i := 13) rfl)
theorem wd_35_14 : Cond.selects RX8 yX8_fewest yX8_fewest ∈ wsL_law := wI_r35 _ (List.mem_of_getElem? (i := 14) rfl)
theorem wd_35_15 : Cond.code yX8_fewest cX8_fewest 8 (some .int) ∈ wsL_law := wI_r35 _ (List.mem_of_getElem? (i := 15) rfl)
theorem wd_35_16 : Cond.methodLink RX8 45 yX8_fewestThatReach ∈ wsL_law := wI_r35 _ (List.mem_of_getElem? (i := 16) rfl)
theorem wd_35_17 : Cond.instanceMethod yX8_fewestThatReach ∈ wsL_law := wI_r35 _ (List.mem_of_getElem? (i := 17) rfl)
theorem wd_35_18 : Cond.selects RX8 yX8_fewestThatReach yX8_fewestThatReach ∈ wsL_law := wI_r35 _ (List.mem_of_getElem? (i := 18) rfl)
theorem wd_35_19 : Cond.code yX8_fewestThatReach cX8_fewestThatReach 4 (some .int) ∈ wsL_law := wI_r35 _ (List.mem_of_getElem? (i := 19) rfl)
theorem wd_35_20 : Cond.methodLink RX8 49 yX8_heaviest ∈ wsL_law := wI_r35 _ (List.mem_of_getElem? (i := 20) rfl)
theorem wd_35_21 : Cond.instanceMethod yX8_heaviest ∈ wsL_law := wI_r35 _ (List.mem_of_getElem? (i := 21) rfl)
theorem wd_35_22 : Cond.selects RX8 yX8_heaviest yX8_heaviest ∈ wsL_law := wI_r35 _ (List.mem_of_getElem? (i := 22) rfl)
theorem wd_35_23 : Cond.code yX8_heaviest cX8_heaviest 8 (some .int) ∈ wsL_law := wI_r35 _ (List.mem_of_getElem? (i := 23) rfl)
theorem wd_36_3 : Cond.code yX12_judged cX12_judged 6 (some .int) ∈ wsL_law := wI_r36 _ (List.mem_of_getElem? (i := 3) rfl)
theorem wd_36_4 : Cond.methodLink RX12 298 yX12_setOf ∈ wsL_law := wI_r36 _ (List.mem_of_getElem? (i := 4) rfl)
theorem wd_36_5 : Cond.instanceMethod yX12_setOf ∈ wsL_law := wI_r36 _ (List.mem_of_getElem? (i := 5) rfl)
theorem wd_36_6 : Cond.selects RX12 yX12_setOf yX12_setOf ∈ wsL_law := wI_r36 _ (List.mem_of_getElem? (i := 6) rfl)
theorem wd_36_7 : Cond.code yX12_setOf cX12_setOf 4 (some .int) ∈ wsL_law := wI_r36 _ (List.mem_of_getElem? (i := 7) rfl)
theorem wd_36_8 : Cond.methodLink RX12 295 yX12_holding ∈ wsL_law := wI_r36 _ (List.mem_of_getElem? (i := 8) rfl)
theorem wd_36_9 : Cond.instanceMethod yX12_holding ∈ wsL_law := wI_r36 _ (List.mem_of_getElem? (i := 9) rfl)
theorem wd_36_10 : Cond.selects RX12 yX12_holding yX12_holding ∈ wsL_law := wI_r36 _ (List.mem_of_getElem? (i := 10) rfl)
theorem wd_36_11 : Cond.code yX12_holding cX12_holding 8 (some .int) ∈ wsL_law := wI_r36 _ (List.mem_of_getElem? (i := 11) rfl)
theorem wd_36_12 : Cond.methodLink RX12 302 yX12_weightOf ∈ wsL_law := wI_r36 _ (List.mem_of_getElem? (i := 12) rfl)
theorem wd_36_13 : Cond.instanceMethod yX12_weightOf ∈ wsL_law := wI_r36 _ (List.mem_of_getElem? (i := 13) rfl)
theorem wd_36_14 : Cond.selects RX12 yX12_weightOf yX12_weightOf ∈ wsL_law := wI_r36 _ (List.mem_of_getElem? (i := 14) rfl)
theorem wd_36_15 : Cond.code yX12_weightOf cX12_weightOf 4 (some .int) ∈ wsL_law := wI_r36 _ (List.mem_of_getElem? (i := 15) rfl)
theorem wd_36_16 : Cond.methodLink RX12 305 yX12_actBy ∈ wsL_law := wI_r36 _ (List.mem_of_getElem? (i := 16) rfl)
theorem wd_36_17 : Cond.instanceMethod yX12_actBy ∈ wsL_law := wI_r36 _ (List.mem_of_getElem? (i := 17) rfl)
theorem wd_36_18 : Cond.selects RX12 yX12_actBy yX12_actBy ∈ wsL_law := wI_r36 _ (List.mem_of_getElem? (i := 18) rfl)
theorem wd_36_19 : Cond.code yX12_actBy cX12_actBy 2 (some .int) ∈ wsL_law := wI_r36 _ (List.mem_of_getElem? (i := 19) rfl)
theorem wd_36_20 : Cond.methodLink RX12 308 yX12_whyOf ∈ wsL_law := wI_r36 _ (List.mem_of_getElem? (i := 20) rfl)
theorem wd_36_21 : Cond.instanceMethod yX12_whyOf ∈ wsL_law := wI_r36 _ (List.mem_of_getElem? (i := 21) rfl)
theorem wd_36_22 : Cond.selects RX12 yX12_whyOf yX12_whyOf ∈ wsL_law := wI_r36 _ (List.mem_of_getElem? (i := 22) rfl)
theorem wd_36_23 : Cond.code yX12_whyOf cX12_whyOf 6 (some .int) ∈ wsL_law := wI_r36 _ (List.mem_of_getElem? (i := 23) rfl)
theorem wd_37_3 : Cond.code yX11_would cX11_would 4 (some .int) ∈ wsL_law := wI_r37 _ (List.mem_of_getElem? (i := 3) rfl)
theorem wd_37_4 : Cond.methodLink RX11 239 yX2_actIf ∈ wsL_law := wI_r37 _ (List.mem_of_getElem? (i := 4) rfl)
theorem wd_37_5 : Cond.instanceMethod yX2_actIf ∈ wsL_law := wI_r37 _ (List.mem_of_getElem? (i := 5) rfl)
theorem wd_37_6 : Cond.selects RX2 yX2_actIf yX2_actIf ∈ wsL_law := wI_r37 _ (List.mem_of_getElem? (i := 6) rfl)
theorem wd_37_7 : Cond.code yX2_actIf cX2_actIf 4 (some .int) ∈ wsL_law := wI_r37 _ (List.mem_of_getElem? (i := 7) rfl)
theorem wd_37_8 : Cond.methodLink RX2 88 yX2_rowOf ∈ wsL_law := wI_r37 _ (List.mem_of_getElem? (i := 8) rfl)
theorem wd_37_9 : Cond.methodLink RX2 92 yX7_takeAmount ∈ wsL_law := wI_r37 _ (List.mem_of_getElem? (i := 9) rfl)
theorem wd_37_13 : Cond.code yX12_would cX12_would 4 (some .int) ∈ wsL_law := wI_r37 _ (List.mem_of_getElem? (i := 13) rfl)
theorem wd_37_17 : Cond.code yX11_acts cX11_acts 2 (some .int) ∈ wsL_law := wI_r37 _ (List.mem_of_getElem? (i := 17) rfl)
theorem wd_37_18 : Cond.methodLink RX11 242 yX2_manyWith ∈ wsL_law := wI_r37 _ (List.mem_of_getElem? (i := 18) rfl)
theorem wd_37_19 : Cond.instanceMethod yX2_manyWith ∈ wsL_law := wI_r37 _ (List.mem_of_getElem? (i := 19) rfl)
theorem wd_37_20 : Cond.selects RX2 yX2_manyWith yX2_manyWith ∈ wsL_law := wI_r37 _ (List.mem_of_getElem? (i := 20) rfl)
theorem wd_37_21 : Cond.code yX2_manyWith cX2_manyWith 5 (some .int) ∈ wsL_law := wI_r37 _ (List.mem_of_getElem? (i := 21) rfl)
theorem wd_37_22 : Cond.fieldLink RX2 112 "OddPayments$Ledger" "size" "I" ∈ wsL_law := wI_r37 _ (List.mem_of_getElem? (i := 22) rfl)
theorem wd_37_23 : Cond.methodLink RX2 117 yX3_inOrder ∈ wsL_law := wI_r37 _ (List.mem_of_getElem? (i := 23) rfl)
theorem wd_38_0 : Cond.methodLink RX11 245 yX2_manyOtherThen ∈ wsL_law := wI_r38 _ (List.mem_of_getElem? (i := 0) rfl)
theorem wd_38_1 : Cond.instanceMethod yX2_manyOtherThen ∈ wsL_law := wI_r38 _ (List.mem_of_getElem? (i := 1) rfl)
theorem wd_38_2 : Cond.selects RX2 yX2_manyOtherThen yX2_manyOtherThen ∈ wsL_law := wI_r38 _ (List.mem_of_getElem? (i := 2) rfl)
theorem wd_38_3 : Cond.code yX2_manyOtherThen cX2_manyOtherThen 4 (some .int) ∈ wsL_law := wI_r38 _ (List.mem_of_getElem? (i := 3) rfl)
theorem wd_38_7 : Cond.code yX12_acts cX12_acts 5 (some .int) ∈ wsL_law := wI_r38 _ (List.mem_of_getElem? (i := 7) rfl)
theorem wd_38_8 : Cond.methodLink RX12 311 yX12_scoreOf ∈ wsL_law := wI_r38 _ (List.mem_of_getElem? (i := 8) rfl)
theorem wd_38_9 : Cond.instanceMethod yX12_scoreOf ∈ wsL_law := wI_r38 _ (List.mem_of_getElem? (i := 9) rfl)
theorem wd_38_10 : Cond.selects RX12 yX12_scoreOf yX12_scoreOf ∈ wsL_law := wI_r38 _ (List.mem_of_getElem? (i := 10) rfl)
theorem wd_38_11 : Cond.code yX12_scoreOf cX12_scoreOf 3 (some .int) ∈ wsL_law := wI_r38 _ (List.mem_of_getElem? (i := 11) rfl)
theorem wd_38_15 : Cond.code yX11_verdict cX11_verdict 5 (some .int) ∈ wsL_law := wI_r38 _ (List.mem_of_getElem? (i := 15) rfl)
theorem wd_38_19 : Cond.code yX12_verdict cX12_verdict 5 (some .int) ∈ wsL_law := wI_r38 _ (List.mem_of_getElem? (i := 19) rfl)
theorem wd_38_23 : Cond.code yX11_queue cX11_queue 2 (some .int) ∈ wsL_law := wI_r38 _ (List.mem_of_getElem? (i := 23) rfl)
theorem wd_39_0 : Cond.fieldLink RX11 252 "OddPayments$Judge" "waiting" "I" ∈ wsL_law := wI_r39 _ (List.mem_of_getElem? (i := 0) rfl)
theorem wd_39_1 : Cond.fieldLink RX11 255 "OddPayments$Judge" "line" "[LOddPayments$Payment;" ∈ wsL_law := wI_r39 _ (List.mem_of_getElem? (i := 1) rfl)
theorem wd_39_2 : Cond.methodLink RX11 249 yX2_lineUp ∈ wsL_law := wI_r39 _ (List.mem_of_getElem? (i := 2) rfl)
theorem wd_39_3 : Cond.instanceMethod yX2_lineUp ∈ wsL_law := wI_r39 _ (List.mem_of_getElem? (i := 3) rfl)
theorem wd_39_4 : Cond.selects RX2 yX2_lineUp yX2_lineUp ∈ wsL_law := wI_r39 _ (List.mem_of_getElem? (i := 4) rfl)
theorem wd_39_5 : Cond.code yX2_lineUp cX2_lineUp 3 none ∈ wsL_law := wI_r39 _ (List.mem_of_getElem? (i := 5) rfl)
theorem wd_39_6 : Cond.fieldLink RX2 109 "OddPayments$Payment" "verdict" "I" ∈ wsL_law := wI_r39 _ (List.mem_of_getElem? (i := 6) rfl)
theorem wd_39_7 : Cond.constant RX2 121 (-1000000) ∈ wsL_law := wI_r39 _ (List.mem_of_getElem? (i := 7) rfl)
theorem wd_39_8 : Cond.fieldLink RX2 122 "OddPayments$Payment" "amount" "I" ∈ wsL_law := wI_r39 _ (List.mem_of_getElem? (i := 8) rfl)
theorem wd_39_9 : Cond.methodLink RX2 125 yX2_scoreOf ∈ wsL_law := wI_r39 _ (List.mem_of_getElem? (i := 9) rfl)
theorem wd_39_10 : Cond.methodLink RX2 128 yX2_queueIn ∈ wsL_law := wI_r39 _ (List.mem_of_getElem? (i := 10) rfl)
theorem wd_39_11 : Cond.instanceMethod yX2_queueIn ∈ wsL_law := wI_r39 _ (List.mem_of_getElem? (i := 11) rfl)
theorem wd_39_12 : Cond.selects RX2 yX2_queueIn yX2_queueIn ∈ wsL_law := wI_r39 _ (List.mem_of_getElem? (i := 12) rfl)
theorem wd_39_13 : Cond.code yX2_queueIn cX2_queueIn 5 none ∈ wsL_law := wI_r39 _ (List.mem_of_getElem? (i := 13) rfl)
theorem wd_39_17 : Cond.code yX12_queue cX12_queue 2 (some .int) ∈ wsL_law := wI_r39 _ (List.mem_of_getElem? (i := 17) rfl)
theorem wd_39_18 : Cond.fieldLink RX12 314 "OddPaymentsModel" "queued" "I" ∈ wsL_law := wI_r39 _ (List.mem_of_getElem? (i := 18) rfl)
theorem wd_39_19 : Cond.methodLink RX12 317 yX12_findQueue ∈ wsL_law := wI_r39 _ (List.mem_of_getElem? (i := 19) rfl)
theorem wd_39_20 : Cond.instanceMethod yX12_findQueue ∈ wsL_law := wI_r39 _ (List.mem_of_getElem? (i := 20) rfl)
theorem wd_39_21 : Cond.selects RX12 yX12_findQueue yX12_findQueue ∈ wsL_law := wI_r39 _ (List.mem_of_getElem? (i := 21) rfl)
theorem wd_39_22 : Cond.code yX12_findQueue cX12_findQueue 4 none ∈ wsL_law := wI_r39 _ (List.mem_of_getElem? (i := 22) rfl)
theorem wd_40_2 : Cond.code yX11_cost cX11_cost 4 (some .int) ∈ wsL_law := wI_r40 _ (List.mem_of_getElem? (i := 2) rfl)
theorem wd_40_3 : Cond.fieldLink RX11 259 "OddPayments$Pricer" "blockCost" "I" ∈ wsL_law := wI_r40 _ (List.mem_of_getElem? (i := 3) rfl)
theorem wd_40_4 : Cond.fieldLink RX11 262 "OddPayments$Pricer" "lookCost" "I" ∈ wsL_law := wI_r40 _ (List.mem_of_getElem? (i := 4) rfl)
theorem wd_40_8 : Cond.code yX12_cost cX12_cost 4 (some .int) ∈ wsL_law := wI_r40 _ (List.mem_of_getElem? (i := 8) rfl)
theorem wd_40_12 : Cond.code yX11_setting cX11_setting 3 (some .long) ∈ wsL_law := wI_r40 _ (List.mem_of_getElem? (i := 12) rfl)
theorem wd_40_13 : Cond.constantLong RX11 265 (-1000001) ∈ wsL_law := wI_r40 _ (List.mem_of_getElem? (i := 13) rfl)
theorem wd_40_14 : Cond.methodLink RX11 267 yX5_priceOf ∈ wsL_law := wI_r40 _ (List.mem_of_getElem? (i := 14) rfl)
theorem wd_40_15 : Cond.instanceMethod yX5_priceOf ∈ wsL_law := wI_r40 _ (List.mem_of_getElem? (i := 15) rfl)
theorem wd_40_16 : Cond.selects RX5 yX5_priceOf yX5_priceOf ∈ wsL_law := wI_r40 _ (List.mem_of_getElem? (i := 16) rfl)
theorem wd_40_17 : Cond.code yX5_priceOf cX5_priceOf 3 (some .long) ∈ wsL_law := wI_r40 _ (List.mem_of_getElem? (i := 17) rfl)
theorem wd_40_18 : Cond.methodLink RX5 57 yX5_rate ∈ wsL_law := wI_r40 _ (List.mem_of_getElem? (i := 18) rfl)
theorem wd_40_19 : Cond.instanceMethod yX5_rate ∈ wsL_law := wI_r40 _ (List.mem_of_getElem? (i := 19) rfl)
theorem wd_40_20 : Cond.selects RX5 yX5_rate yX5_rate ∈ wsL_law := wI_r40 _ (List.mem_of_getElem? (i := 20) rfl)
theorem wd_40_21 : Cond.code yX5_rate cX5_rate 3 none ∈ wsL_law := wI_r40 _ (List.mem_of_getElem? (i := 21) rfl)
theorem wd_40_22 : Cond.fieldLink RX5 74 "OddPayments$Ledger" "size" "I" ∈ wsL_law := wI_r40 _ (List.mem_of_getElem? (i := 22) rfl)
theorem wd_40_23 : Cond.fieldLink RX5 83 "OddPayments$Payment" "verdict" "I" ∈ wsL_law := wI_r40 _ (List.mem_of_getElem? (i := 23) rfl)
theorem wd_41_0 : Cond.constant RX5 88 (-1000000) ∈ wsL_law := wI_r41 _ (List.mem_of_getElem? (i := 0) rfl)
theorem wd_41_1 : Cond.fieldLink RX5 95 "OddPayments$Payment" "amount" "I" ∈ wsL_law := wI_r41 _ (List.mem_of_getElem? (i := 1) rfl)
theorem wd_41_2 : Cond.methodLink RX5 79 yX3_inOrder ∈ wsL_law := wI_r41 _ (List.mem_of_getElem? (i := 2) rfl)
theorem wd_41_3 : Cond.methodLink RX5 89 yX2_scoreOf ∈ wsL_law := wI_r41 _ (List.mem_of_getElem? (i := 3) rfl)
theorem wd_41_4 : Cond.methodLink RX5 60 yX5_lookPart ∈ wsL_law := wI_r41 _ (List.mem_of_getElem? (i := 4) rfl)
theorem wd_41_5 : Cond.instanceMethod yX5_lookPart ∈ wsL_law := wI_r41 _ (List.mem_of_getElem? (i := 5) rfl)
theorem wd_41_6 : Cond.selects RX5 yX5_lookPart yX5_lookPart ∈ wsL_law := wI_r41 _ (List.mem_of_getElem? (i := 6) rfl)
theorem wd_41_7 : Cond.code yX5_lookPart cX5_lookPart 5 (some .long) ∈ wsL_law := wI_r41 _ (List.mem_of_getElem? (i := 7) rfl)
theorem wd_41_8 : Cond.methodLink RX5 64 yX5_blockPart ∈ wsL_law := wI_r41 _ (List.mem_of_getElem? (i := 8) rfl)
theorem wd_41_9 : Cond.instanceMethod yX5_blockPart ∈ wsL_law := wI_r41 _ (List.mem_of_getElem? (i := 9) rfl)
theorem wd_41_10 : Cond.selects RX5 yX5_blockPart yX5_blockPart ∈ wsL_law := wI_r41 _ (List.mem_of_getElem? (i := 10) rfl)
theorem wd_41_11 : Cond.code yX5_blockPart cX5_blockPart 5 (some .long) ∈ wsL_law := wI_r41 _ (List.mem_of_getElem? (i := 11) rfl)
theorem wd_41_15 : Cond.code yX12_setting cX12_setting 3 (some .long) ∈ wsL_law := wI_r41 _ (List.mem_of_getElem? (i := 15) rfl)
theorem wd_41_16 : Cond.constantLong RX12 320 (20000) ∈ wsL_law := wI_r41 _ (List.mem_of_getElem? (i := 16) rfl)
theorem wd_41_17 : Cond.constantLong RX12 322 (-1000001) ∈ wsL_law := wI_r41 _ (List.mem_of_getElem? (i := 17) rfl)
theorem wd_41_18 : Cond.methodLink RX12 324 yX12_findScores ∈ wsL_law := wI_r41 _ (List.mem_of_getElem? (i := 18) rfl)
theorem wd_41_19 : Cond.instanceMethod yX12_findScores ∈ wsL_law := wI_r41 _ (List.mem_of_getElem? (i := 19) rfl)
theorem wd_41_20 : Cond.selects RX12 yX12_findScores yX12_findScores ∈ wsL_law := wI_r41 _ (List.mem_of_getElem? (i := 20) rfl)
theorem wd_41_21 : Cond.code yX12_findScores cX12_findScores 2 none ∈ wsL_law := wI_r41 _ (List.mem_of_getElem? (i := 21) rfl)
theorem wd_41_22 : Cond.methodLink RX12 327 yX12_costOf ∈ wsL_law := wI_r41 _ (List.mem_of_getElem? (i := 22) rfl)
theorem wd_41_23 : Cond.instanceMethod yX12_costOf ∈ wsL_law := wI_r41 _ (List.mem_of_getElem? (i := 23) rfl)
theorem wd_42_0 : Cond.selects RX12 yX12_costOf yX12_costOf ∈ wsL_law := wI_r42 _ (List.mem_of_getElem? (i := 0) rfl)
theorem wd_42_1 : Cond.code yX12_costOf cX12_costOf 6 (some .long) ∈ wsL_law := wI_r42 _ (List.mem_of_getElem? (i := 1) rfl)
theorem wd_42_5 : Cond.code yX11_bestSetting cX11_bestSetting 2 (some .long) ∈ wsL_law := wI_r42 _ (List.mem_of_getElem? (i := 5) rfl)
theorem wd_42_6 : Cond.fieldLink RX11 274 "OddPayments$Pricer" "bestPrice" "J" ∈ wsL_law := wI_r42 _ (List.mem_of_getElem? (i := 6) rfl)
theorem wd_42_7 : Cond.fieldLink RX11 278 "OddPayments$Pricer" "bestLook" "I" ∈ wsL_law := wI_r42 _ (List.mem_of_getElem? (i := 7) rfl)
theorem wd_42_8 : Cond.fieldLink RX11 281 "OddPayments$Pricer" "bestBlock" "I" ∈ wsL_law := wI_r42 _ (List.mem_of_getElem? (i := 8) rfl)
theorem wd_42_9 : Cond.methodLink RX11 271 yX5_findBest ∈ wsL_law := wI_r42 _ (List.mem_of_getElem? (i := 9) rfl)
theorem wd_42_10 : Cond.instanceMethod yX5_findBest ∈ wsL_law := wI_r42 _ (List.mem_of_getElem? (i := 10) rfl)
theorem wd_42_11 : Cond.selects RX5 yX5_findBest yX5_findBest ∈ wsL_law := wI_r42 _ (List.mem_of_getElem? (i := 11) rfl)
theorem wd_42_12 : Cond.code yX5_findBest cX5_findBest 10 none ∈ wsL_law := wI_r42 _ (List.mem_of_getElem? (i := 12) rfl)
theorem wd_42_13 : Cond.constantLong RX5 72 (9223372036854775807) ∈ wsL_law := wI_r42 _ (List.mem_of_getElem? (i := 13) rfl)
theorem wd_42_14 : Cond.methodLink RX5 67 yX5_findThresholds ∈ wsL_law := wI_r42 _ (List.mem_of_getElem? (i := 14) rfl)
theorem wd_42_15 : Cond.instanceMethod yX5_findThresholds ∈ wsL_law := wI_r42 _ (List.mem_of_getElem? (i := 15) rfl)
theorem wd_42_16 : Cond.selects RX5 yX5_findThresholds yX5_findThresholds ∈ wsL_law := wI_r42 _ (List.mem_of_getElem? (i := 16) rfl)
theorem wd_42_17 : Cond.code yX5_findThresholds cX5_findThresholds 2 none ∈ wsL_law := wI_r42 _ (List.mem_of_getElem? (i := 17) rfl)
theorem wd_42_18 : Cond.methodLink RX5 98 yX5_addThreshold ∈ wsL_law := wI_r42 _ (List.mem_of_getElem? (i := 18) rfl)
theorem wd_42_19 : Cond.instanceMethod yX5_addThreshold ∈ wsL_law := wI_r42 _ (List.mem_of_getElem? (i := 19) rfl)
theorem wd_42_20 : Cond.selects RX5 yX5_addThreshold yX5_addThreshold ∈ wsL_law := wI_r42 _ (List.mem_of_getElem? (i := 20) rfl)
theorem wd_42_21 : Cond.code yX5_addThreshold cX5_addThreshold 4 none ∈ wsL_law := wI_r42 _ (List.mem_of_getElem? (i := 21) rfl)
theorem wd_42_22 : Cond.methodLink RX5 102 arraycopyName ∈ wsL_law := wI_r42 _ (List.mem_of_getElem? (i := 22) rfl)
theorem wd_43_2 : Cond.code yX12_bestSetting cX12_bestSetting 13 (some .long) ∈ wsL_law := wI_r43 _ (List.mem_of_getElem? (i := 2) rfl)
theorem wd_43_6 : Cond.code yX11_learnt cX11_learnt 2 (some .long) ∈ wsL_law := wI_r43 _ (List.mem_of_getElem? (i := 6) rfl)
theorem wd_43_7 : Cond.methodLink RX11 284 yX5_learn ∈ wsL_law := wI_r43 _ (List.mem_of_getElem? (i := 7) rfl)
theorem wd_43_8 : Cond.instanceMethod yX5_learn ∈ wsL_law := wI_r43 _ (List.mem_of_getElem? (i := 8) rfl)
theorem wd_43_9 : Cond.selects RX5 yX5_learn yX5_learn ∈ wsL_law := wI_r43 _ (List.mem_of_getElem? (i := 9) rfl)
theorem wd_43_10 : Cond.code yX5_learn cX5_learn 5 (some .int) ∈ wsL_law := wI_r43 _ (List.mem_of_getElem? (i := 10) rfl)
theorem wd_43_11 : Cond.fieldLink RX5 117 "OddPayments$Judge" "book" "LOddPayments$RuleBook;" ∈ wsL_law := wI_r43 _ (List.mem_of_getElem? (i := 11) rfl)
theorem wd_43_12 : Cond.methodLink RX5 114 yX5_sumUp ∈ wsL_law := wI_r43 _ (List.mem_of_getElem? (i := 12) rfl)
theorem wd_43_13 : Cond.instanceMethod yX5_sumUp ∈ wsL_law := wI_r43 _ (List.mem_of_getElem? (i := 13) rfl)
theorem wd_43_14 : Cond.selects RX5 yX5_sumUp yX5_sumUp ∈ wsL_law := wI_r43 _ (List.mem_of_getElem? (i := 14) rfl)
theorem wd_43_15 : Cond.code yX5_sumUp cX5_sumUp 4 none ∈ wsL_law := wI_r43 _ (List.mem_of_getElem? (i := 15) rfl)
theorem wd_43_16 : Cond.fieldLink RX5 108 "OddPayments$Payment" "tag" "I" ∈ wsL_law := wI_r43 _ (List.mem_of_getElem? (i := 16) rfl)
theorem wd_43_17 : Cond.fieldLink RX5 137 "OddPayments$RuleBook" "size" "I" ∈ wsL_law := wI_r43 _ (List.mem_of_getElem? (i := 17) rfl)
theorem wd_43_18 : Cond.methodLink RX5 121 yX8_allRules ∈ wsL_law := wI_r43 _ (List.mem_of_getElem? (i := 18) rfl)
theorem wd_43_19 : Cond.instanceMethod yX8_allRules ∈ wsL_law := wI_r43 _ (List.mem_of_getElem? (i := 19) rfl)
theorem wd_43_20 : Cond.selects RX8 yX8_allRules yX8_allRules ∈ wsL_law := wI_r43 _ (List.mem_of_getElem? (i := 20) rfl)
theorem wd_43_21 : Cond.code yX8_allRules cX8_allRules 1 (some .int) ∈ wsL_law := wI_r43 _ (List.mem_of_getElem? (i := 21) rfl)
theorem wd_43_22 : Cond.methodLink RX5 131 yJ7_fill_53178 ∈ wsL_law := wI_r43 _ (List.mem_of_getElem? (i := 22) rfl)
theorem wd_43_23 : Cond.methodLink RX5 111 yX2_heldBy ∈ wsL_law := wI_r43 _ (List.mem_of_getElem? (i := 23) rfl)
theorem wd_44_0 : Cond.methodLink RX5 125 yJ6_bitCount_0f7a4 ∈ wsL_law := wI_r44 _ (List.mem_of_getElem? (i := 0) rfl)
theorem wd_44_1 : Cond.methodLink RX11 287 yX5_priceOfSet ∈ wsL_law := wI_r44 _ (List.mem_of_getElem? (i := 1) rfl)
theorem wd_44_2 : Cond.instanceMethod yX5_priceOfSet ∈ wsL_law := wI_r44 _ (List.mem_of_getElem? (i := 2) rfl)
theorem wd_44_3 : Cond.selects RX5 yX5_priceOfSet yX5_priceOfSet ∈ wsL_law := wI_r44 _ (List.mem_of_getElem? (i := 3) rfl)
theorem wd_44_4 : Cond.code yX5_priceOfSet cX5_priceOfSet 8 (some .long) ∈ wsL_law := wI_r44 _ (List.mem_of_getElem? (i := 4) rfl)
theorem wd_44_5 : Cond.methodLink RX11 290 yX8_allRules ∈ wsL_law := wI_r44 _ (List.mem_of_getElem? (i := 5) rfl)
theorem wd_44_9 : Cond.code yX12_learnt cX12_learnt 8 (some .long) ∈ wsL_law := wI_r44 _ (List.mem_of_getElem? (i := 9) rfl)
theorem wd_44_10 : Cond.methodLink RX12 331 yX12_findHolds ∈ wsL_law := wI_r44 _ (List.mem_of_getElem? (i := 10) rfl)
theorem wd_44_11 : Cond.instanceMethod yX12_findHolds ∈ wsL_law := wI_r44 _ (List.mem_of_getElem? (i := 11) rfl)
theorem wd_44_12 : Cond.selects RX12 yX12_findHolds yX12_findHolds ∈ wsL_law := wI_r44 _ (List.mem_of_getElem? (i := 12) rfl)
theorem wd_44_13 : Cond.code yX12_findHolds cX12_findHolds 2 none ∈ wsL_law := wI_r44 _ (List.mem_of_getElem? (i := 13) rfl)
theorem wd_44_14 : Cond.methodLink RX12 334 yX12_costOfSet ∈ wsL_law := wI_r44 _ (List.mem_of_getElem? (i := 14) rfl)
theorem wd_44_15 : Cond.instanceMethod yX12_costOfSet ∈ wsL_law := wI_r44 _ (List.mem_of_getElem? (i := 15) rfl)
theorem wd_44_16 : Cond.selects RX12 yX12_costOfSet yX12_costOfSet ∈ wsL_law := wI_r44 _ (List.mem_of_getElem? (i := 16) rfl)
theorem wd_44_17 : Cond.code yX12_costOfSet cX12_costOfSet 7 (some .long) ∈ wsL_law := wI_r44 _ (List.mem_of_getElem? (i := 17) rfl)
theorem wd_44_21 : Cond.code yX11_costs cX11_costs 3 (some .long) ∈ wsL_law := wI_r44 _ (List.mem_of_getElem? (i := 21) rfl)
theorem wd_45_1 : Cond.code yX12_costs cX12_costs 3 (some .long) ∈ wsL_law := wI_r45 _ (List.mem_of_getElem? (i := 1) rfl)
theorem wd_45_5 : Cond.code yX11_drift cX11_drift 6 (some .long) ∈ wsL_law := wI_r45 _ (List.mem_of_getElem? (i := 5) rfl)
theorem wd_45_6 : Cond.fieldLink RX11 300 "OddPayments$Drift" "first" "I" ∈ wsL_law := wI_r45 _ (List.mem_of_getElem? (i := 6) rfl)
theorem wd_45_7 : Cond.fieldLink RX11 303 "OddPayments$Drift" "second" "I" ∈ wsL_law := wI_r45 _ (List.mem_of_getElem? (i := 7) rfl)
theorem wd_45_8 : Cond.constantLong RX11 306 (-1000003) ∈ wsL_law := wI_r45 _ (List.mem_of_getElem? (i := 8) rfl)
theorem wd_45_9 : Cond.methodLink RX11 293 yX11_areBounds ∈ wsL_law := wI_r45 _ (List.mem_of_getElem? (i := 9) rfl)
theorem wd_45_10 : Cond.static yX11_areBounds ∈ wsL_law := wI_r45 _ (List.mem_of_getElem? (i := 10) rfl)
theorem wd_45_11 : Cond.code yX11_areBounds cX11_areBounds 2 (some .boolean) ∈ wsL_law := wI_r45 _ (List.mem_of_getElem? (i := 11) rfl)
theorem wd_45_12 : Cond.constant RX11 345 (200000) ∈ wsL_law := wI_r45 _ (List.mem_of_getElem? (i := 12) rfl)
theorem wd_45_13 : Cond.methodLink RX11 296 yX1_tally ∈ wsL_law := wI_r45 _ (List.mem_of_getElem? (i := 13) rfl)
theorem wd_45_14 : Cond.instanceMethod yX1_tally ∈ wsL_law := wI_r45 _ (List.mem_of_getElem? (i := 14) rfl)
theorem wd_45_15 : Cond.selects RX1 yX1_tally yX1_tally ∈ wsL_law := wI_r45 _ (List.mem_of_getElem? (i := 15) rfl)
theorem wd_45_16 : Cond.code yX1_tally cX1_tally 9 none ∈ wsL_law := wI_r45 _ (List.mem_of_getElem? (i := 16) rfl)
theorem wd_45_17 : Cond.fieldLink RX1 22 "OddPayments$Ledger" "size" "I" ∈ wsL_law := wI_r45 _ (List.mem_of_getElem? (i := 17) rfl)
theorem wd_45_18 : Cond.fieldLink RX1 31 "OddPayments$Payment" "time" "I" ∈ wsL_law := wI_r45 _ (List.mem_of_getElem? (i := 18) rfl)
theorem wd_45_19 : Cond.fieldLink RX1 36 "OddPayments$Payment" "sort" "I" ∈ wsL_law := wI_r45 _ (List.mem_of_getElem? (i := 19) rfl)
theorem wd_45_20 : Cond.methodLink RX1 27 yX3_inOrder ∈ wsL_law := wI_r45 _ (List.mem_of_getElem? (i := 20) rfl)
theorem wd_45_21 : Cond.methodLink RX11 308 yX1_tell ∈ wsL_law := wI_r45 _ (List.mem_of_getElem? (i := 21) rfl)
theorem wd_45_22 : Cond.instanceMethod yX1_tell ∈ wsL_law := wI_r45 _ (List.mem_of_getElem? (i := 22) rfl)
theorem wd_45_23 : Cond.selects RX1 yX1_tell yX1_tell ∈ wsL_law := wI_r45 _ (List.mem_of_getElem? (i := 23) rfl)
theorem wd_46_0 : Cond.code yX1_tell cX1_tell 2 (some .long) ∈ wsL_law := wI_r46 _ (List.mem_of_getElem? (i := 0) rfl)
theorem wd_46_1 : Cond.methodLink RX1 39 yX1_waysAsFar ∈ wsL_law := wI_r46 _ (List.mem_of_getElem? (i := 1) rfl)
theorem wd_46_2 : Cond.instanceMethod yX1_waysAsFar ∈ wsL_law := wI_r46 _ (List.mem_of_getElem? (i := 2) rfl)
theorem wd_46_3 : Cond.selects RX1 yX1_waysAsFar yX1_waysAsFar ∈ wsL_law := wI_r46 _ (List.mem_of_getElem? (i := 3) rfl)
theorem wd_46_4 : Cond.code yX1_waysAsFar cX1_waysAsFar 7 (some .long) ∈ wsL_law := wI_r46 _ (List.mem_of_getElem? (i := 4) rfl)
theorem wd_46_5 : Cond.methodLink RX1 47 yX1_apart ∈ wsL_law := wI_r46 _ (List.mem_of_getElem? (i := 5) rfl)
theorem wd_46_6 : Cond.instanceMethod yX1_apart ∈ wsL_law := wI_r46 _ (List.mem_of_getElem? (i := 6) rfl)
theorem wd_46_7 : Cond.selects RX1 yX1_apart yX1_apart ∈ wsL_law := wI_r46 _ (List.mem_of_getElem? (i := 7) rfl)
theorem wd_46_8 : Cond.code yX1_apart cX1_apart 3 (some .int) ∈ wsL_law := wI_r46 _ (List.mem_of_getElem? (i := 8) rfl)
theorem wd_46_9 : Cond.methodLink RX1 51 Lib.Math.abs.name ∈ wsL_law := wI_r46 _ (List.mem_of_getElem? (i := 9) rfl)
theorem wd_46_10 : Cond.static Lib.Math.abs.name ∈ wsL_law := wI_r46 _ (List.mem_of_getElem? (i := 10) rfl)
theorem wd_46_11 : Cond.code Lib.Math.abs.name Lib.Math.abs.code 1 (some .int) ∈ wsL_law := wI_r46 _ (List.mem_of_getElem? (i := 11) rfl)
theorem wd_46_12 : Cond.methodLink RX1 43 yX1_choose ∈ wsL_law := wI_r46 _ (List.mem_of_getElem? (i := 12) rfl)
theorem wd_46_13 : Cond.static yX1_choose ∈ wsL_law := wI_r46 _ (List.mem_of_getElem? (i := 13) rfl)
theorem wd_46_14 : Cond.code yX1_choose cX1_choose 5 (some .long) ∈ wsL_law := wI_r46 _ (List.mem_of_getElem? (i := 14) rfl)
theorem wd_46_18 : Cond.code yX12_drift cX12_drift 16 (some .long) ∈ wsL_law := wI_r46 _ (List.mem_of_getElem? (i := 18) rfl)
theorem wd_46_19 : Cond.constantLong RX12 337 (200000) ∈ wsL_law := wI_r46 _ (List.mem_of_getElem? (i := 19) rfl)
theorem wd_46_20 : Cond.constantLong RX12 339 (5) ∈ wsL_law := wI_r46 _ (List.mem_of_getElem? (i := 20) rfl)
theorem wd_46_21 : Cond.constantLong RX12 341 (-1000003) ∈ wsL_law := wI_r46 _ (List.mem_of_getElem? (i := 21) rfl)
theorem wd_46_22 : Cond.methodLink RX12 343 yX12_waysOf ∈ wsL_law := wI_r46 _ (List.mem_of_getElem? (i := 22) rfl)
theorem wd_46_23 : Cond.instanceMethod yX12_waysOf ∈ wsL_law := wI_r46 _ (List.mem_of_getElem? (i := 23) rfl)
theorem wd_47_0 : Cond.selects RX12 yX12_waysOf yX12_waysOf ∈ wsL_law := wI_r47 _ (List.mem_of_getElem? (i := 0) rfl)
theorem wd_47_1 : Cond.code yX12_waysOf cX12_waysOf 3 (some .long) ∈ wsL_law := wI_r47 _ (List.mem_of_getElem? (i := 1) rfl)
theorem wd_47_5 : Cond.code yX11_counted cX11_counted 5 (some .int) ∈ wsL_law := wI_r47 _ (List.mem_of_getElem? (i := 5) rfl)
theorem wd_47_6 : Cond.methodLink RX11 312 yX3_manyBetween ∈ wsL_law := wI_r47 _ (List.mem_of_getElem? (i := 6) rfl)
theorem wd_47_7 : Cond.instanceMethod yX3_manyBetween ∈ wsL_law := wI_r47 _ (List.mem_of_getElem? (i := 7) rfl)
theorem wd_47_8 : Cond.selects RX3 yX3_manyBetween yX3_manyBetween ∈ wsL_law := wI_r47 _ (List.mem_of_getElem? (i := 8) rfl)
theorem wd_47_9 : Cond.code yX3_manyBetween cX3_manyBetween 7 (some .int) ∈ wsL_law := wI_r47 _ (List.mem_of_getElem? (i := 9) rfl)
theorem wd_47_10 : Cond.fieldLink RX3 41 "OddPayments$Payment" "payer" "I" ∈ wsL_law := wI_r47 _ (List.mem_of_getElem? (i := 10) rfl)
theorem wd_47_11 : Cond.fieldLink RX3 44 "OddPayments$Payment" "time" "I" ∈ wsL_law := wI_r47 _ (List.mem_of_getElem? (i := 11) rfl)
theorem wd_47_15 : Cond.code yX12_counted cX12_counted 6 (some .int) ∈ wsL_law := wI_r47 _ (List.mem_of_getElem? (i := 15) rfl)
theorem wd_47_19 : Cond.code yX11_kind cX11_kind 3 (some .int) ∈ wsL_law := wI_r47 _ (List.mem_of_getElem? (i := 19) rfl)
theorem wd_47_20 : Cond.methodLink RX11 316 yX2_kindOf ∈ wsL_law := wI_r47 _ (List.mem_of_getElem? (i := 20) rfl)
theorem wd_47_21 : Cond.instanceMethod yX2_kindOf ∈ wsL_law := wI_r47 _ (List.mem_of_getElem? (i := 21) rfl)
theorem wd_47_22 : Cond.selects RX2 yX2_kindOf yX2_kindOf ∈ wsL_law := wI_r47 _ (List.mem_of_getElem? (i := 22) rfl)
theorem wd_47_23 : Cond.code yX2_kindOf cX2_kindOf 3 (some .int) ∈ wsL_law := wI_r47 _ (List.mem_of_getElem? (i := 23) rfl)
theorem wd_48_3 : Cond.code yX12_kind cX12_kind 3 (some .int) ∈ wsL_law := wI_r48 _ (List.mem_of_getElem? (i := 3) rfl)
theorem wd_48_4 : Cond.methodLink RX12 346 yX12_kindOf ∈ wsL_law := wI_r48 _ (List.mem_of_getElem? (i := 4) rfl)
theorem wd_48_5 : Cond.instanceMethod yX12_kindOf ∈ wsL_law := wI_r48 _ (List.mem_of_getElem? (i := 5) rfl)
theorem wd_48_6 : Cond.selects RX12 yX12_kindOf yX12_kindOf ∈ wsL_law := wI_r48 _ (List.mem_of_getElem? (i := 6) rfl)
theorem wd_48_7 : Cond.code yX12_kindOf cX12_kindOf 3 (some .int) ∈ wsL_law := wI_r48 _ (List.mem_of_getElem? (i := 7) rfl)
theorem wd_48_11 : Cond.code yX11_as cX11_as 6 (some .int) ∈ wsL_law := wI_r48 _ (List.mem_of_getElem? (i := 11) rfl)
theorem wd_48_15 : Cond.code yX12_as cX12_as 4 (some .int) ∈ wsL_law := wI_r48 _ (List.mem_of_getElem? (i := 15) rfl)
theorem wd_48_16 : Cond.methodLink RX12 349 yX12_isOf ∈ wsL_law := wI_r48 _ (List.mem_of_getElem? (i := 16) rfl)
theorem wd_48_17 : Cond.static yX12_isOf ∈ wsL_law := wI_r48 _ (List.mem_of_getElem? (i := 17) rfl)
theorem wd_48_18 : Cond.code yX12_isOf cX12_isOf 2 (some .boolean) ∈ wsL_law := wI_r48 _ (List.mem_of_getElem? (i := 18) rfl)
theorem wd_48_22 : Cond.code yX11_ask cX11_ask 4 (some .int) ∈ wsL_law := wI_r48 _ (List.mem_of_getElem? (i := 22) rfl)
theorem wd_48_23 : Cond.methodLink RX11 320 yX0_answer ∈ wsL_law := wI_r48 _ (List.mem_of_getElem? (i := 23) rfl)
theorem wd_49_0 : Cond.instanceMethod yX0_answer ∈ wsL_law := wI_r49 _ (List.mem_of_getElem? (i := 0) rfl)
theorem wd_49_1 : Cond.selects RX0 yX0_answer yX0_answer ∈ wsL_law := wI_r49 _ (List.mem_of_getElem? (i := 1) rfl)
theorem wd_49_2 : Cond.code yX0_answer cX0_answer 5 (some .int) ∈ wsL_law := wI_r49 _ (List.mem_of_getElem? (i := 2) rfl)
theorem wd_49_3 : Cond.methodLink RX0 27 yX0_body ∈ wsL_law := wI_r49 _ (List.mem_of_getElem? (i := 3) rfl)
theorem wd_49_4 : Cond.instanceMethod yX0_body ∈ wsL_law := wI_r49 _ (List.mem_of_getElem? (i := 4) rfl)
theorem wd_49_5 : Cond.selects RX0 yX0_body yX0_body ∈ wsL_law := wI_r49 _ (List.mem_of_getElem? (i := 5) rfl)
theorem wd_49_6 : Cond.code yX0_body cX0_body 3 (some .int) ∈ wsL_law := wI_r49 _ (List.mem_of_getElem? (i := 6) rfl)
theorem wd_49_7 : Cond.fieldLink RX0 31 "OddPayments$Payment" "amount" "I" ∈ wsL_law := wI_r49 _ (List.mem_of_getElem? (i := 7) rfl)
theorem wd_49_8 : Cond.fieldLink RX0 36 "OddPayments$Payment" "sort" "I" ∈ wsL_law := wI_r49 _ (List.mem_of_getElem? (i := 8) rfl)
theorem wd_49_9 : Cond.fieldLink RX0 39 "OddPayments$Payment" "payer" "I" ∈ wsL_law := wI_r49 _ (List.mem_of_getElem? (i := 9) rfl)
theorem wd_49_13 : Cond.code yX12_ask cX12_ask 5 (some .int) ∈ wsL_law := wI_r49 _ (List.mem_of_getElem? (i := 13) rfl)
theorem wd_49_14 : Cond.fieldLink RX12 352 "OddPaymentsModel" "traced" "I" ∈ wsL_law := wI_r49 _ (List.mem_of_getElem? (i := 14) rfl)
theorem wd_49_15 : Cond.methodLink RX12 364 yX12_worthOf ∈ wsL_law := wI_r49 _ (List.mem_of_getElem? (i := 15) rfl)
theorem wd_49_16 : Cond.instanceMethod yX12_worthOf ∈ wsL_law := wI_r49 _ (List.mem_of_getElem? (i := 16) rfl)
theorem wd_49_17 : Cond.selects RX12 yX12_worthOf yX12_worthOf ∈ wsL_law := wI_r49 _ (List.mem_of_getElem? (i := 17) rfl)
theorem wd_49_18 : Cond.code yX12_worthOf cX12_worthOf 3 (some .int) ∈ wsL_law := wI_r49 _ (List.mem_of_getElem? (i := 18) rfl)
theorem wd_49_19 : Cond.methodLink RX12 358 yX12_heldWorth ∈ wsL_law := wI_r49 _ (List.mem_of_getElem? (i := 19) rfl)
theorem wd_49_20 : Cond.instanceMethod yX12_heldWorth ∈ wsL_law := wI_r49 _ (List.mem_of_getElem? (i := 20) rfl)
theorem wd_49_21 : Cond.selects RX12 yX12_heldWorth yX12_heldWorth ∈ wsL_law := wI_r49 _ (List.mem_of_getElem? (i := 21) rfl)
theorem wd_49_22 : Cond.code yX12_heldWorth cX12_heldWorth 4 (some .int) ∈ wsL_law := wI_r49 _ (List.mem_of_getElem? (i := 22) rfl)
theorem wd_49_23 : Cond.methodLink RX12 355 yX12_began ∈ wsL_law := wI_r49 _ (List.mem_of_getElem? (i := 23) rfl)
theorem wd_50_0 : Cond.instanceMethod yX12_began ∈ wsL_law := wI_r50 _ (List.mem_of_getElem? (i := 0) rfl)
theorem wd_50_1 : Cond.selects RX12 yX12_began yX12_began ∈ wsL_law := wI_r50 _ (List.mem_of_getElem? (i := 1) rfl)
theorem wd_50_2 : Cond.code yX12_began cX12_began 2 none ∈ wsL_law := wI_r50 _ (List.mem_of_getElem? (i := 2) rfl)
theorem wd_50_3 : Cond.methodLink RX12 361 yX12_markOf ∈ wsL_law := wI_r50 _ (List.mem_of_getElem? (i := 3) rfl)
theorem wd_50_4 : Cond.instanceMethod yX12_markOf ∈ wsL_law := wI_r50 _ (List.mem_of_getElem? (i := 4) rfl)
theorem wd_50_5 : Cond.selects RX12 yX12_markOf yX12_markOf ∈ wsL_law := wI_r50 _ (List.mem_of_getElem? (i := 5) rfl)
theorem wd_50_6 : Cond.code yX12_markOf cX12_markOf 4 (some .int) ∈ wsL_law := wI_r50 _ (List.mem_of_getElem? (i := 6) rfl)
theorem wd_50_10 : Cond.code yX11_trace cX11_trace 2 (some .int) ∈ wsL_law := wI_r50 _ (List.mem_of_getElem? (i := 10) rfl)
theorem wd_50_11 : Cond.fieldLink RX11 324 "OddPayments$Asker" "steps" "I" ∈ wsL_law := wI_r50 _ (List.mem_of_getElem? (i := 11) rfl)
theorem wd_50_12 : Cond.fieldLink RX11 327 "OddPayments$Asker" "trail" "[I" ∈ wsL_law := wI_r50 _ (List.mem_of_getElem? (i := 12) rfl)
theorem wd_50_16 : Cond.code yX12_trace cX12_trace 2 (some .int) ∈ wsL_law := wI_r50 _ (List.mem_of_getElem? (i := 16) rfl)
theorem wd_50_20 : Cond.code yX11_count cX11_count 2 (some .int) ∈ wsL_law := wI_r50 _ (List.mem_of_getElem? (i := 20) rfl)
theorem wd_50_21 : Cond.fieldLink RX11 337 "OddPayments$Ledger" "marked" "I" ∈ wsL_law := wI_r50 _ (List.mem_of_getElem? (i := 21) rfl)
theorem wd_50_22 : Cond.methodLink RX11 330 yX11_sheetsThere ∈ wsL_law := wI_r50 _ (List.mem_of_getElem? (i := 22) rfl)
theorem wd_50_23 : Cond.instanceMethod yX11_sheetsThere ∈ wsL_law := wI_r50 _ (List.mem_of_getElem? (i := 23) rfl)
theorem wd_51_0 : Cond.selects RX11 yX11_sheetsThere yX11_sheetsThere ∈ wsL_law := wI_r51 _ (List.mem_of_getElem? (i := 0) rfl)
theorem wd_51_1 : Cond.code yX11_sheetsThere cX11_sheetsThere 3 (some .int) ∈ wsL_law := wI_r51 _ (List.mem_of_getElem? (i := 1) rfl)
theorem wd_51_2 : Cond.methodLink RX11 334 yX3_manyJudged ∈ wsL_law := wI_r51 _ (List.mem_of_getElem? (i := 2) rfl)
theorem wd_51_3 : Cond.instanceMethod yX3_manyJudged ∈ wsL_law := wI_r51 _ (List.mem_of_getElem? (i := 3) rfl)
theorem wd_51_4 : Cond.selects RX3 yX3_manyJudged yX3_manyJudged ∈ wsL_law := wI_r51 _ (List.mem_of_getElem? (i := 4) rfl)
theorem wd_51_5 : Cond.code yX3_manyJudged cX3_manyJudged 4 (some .int) ∈ wsL_law := wI_r51 _ (List.mem_of_getElem? (i := 5) rfl)
theorem wd_51_6 : Cond.fieldLink RX3 38 "OddPayments$Payment" "verdict" "I" ∈ wsL_law := wI_r51 _ (List.mem_of_getElem? (i := 6) rfl)
theorem wd_51_7 : Cond.methodLink RX11 340 yJ6_bitCount_0f7a4 ∈ wsL_law := wI_r51 _ (List.mem_of_getElem? (i := 7) rfl)
theorem wd_51_11 : Cond.code yX12_count cX12_count 4 (some .int) ∈ wsL_law := wI_r51 _ (List.mem_of_getElem? (i := 11) rfl)
theorem wd_51_15 : Cond.code yX11_status cX11_status 1 (some .int) ∈ wsL_law := wI_r51 _ (List.mem_of_getElem? (i := 15) rfl)
theorem wd_51_19 : Cond.code yX12_status cX12_status 1 (some .int) ∈ wsL_law := wI_r51 _ (List.mem_of_getElem? (i := 19) rfl)
theorem fl_RX0_9 : aFl RX0 9 0 0 true (.array .int) := ⟨RX0, TX0, 5, tyX0, rfl, wI_X0, tyX0_ok, nmX0, by decide, by decide, rfl, wd_7_15, rfl, rfl, rfl⟩
theorem fl_RX0_13 : aFl RX0 13 0 1 false .int := ⟨RX0, TX0, 5, tyX0, rfl, wI_X0, tyX0_ok, nmX0, by decide, by decide, rfl, wd_7_16, rfl, rfl, rfl⟩
theorem fl_RX0_17 : aFl RX0 17 0 2 false (.object "OddPayments$Payment") := ⟨RX0, TX0, 5, tyX0, rfl, wI_X0, tyX0_ok, nmX0, by decide, by decide, rfl, wd_7_17, rfl, rfl, rfl⟩
theorem fl_RX0_21 : aFl RX0 21 0 3 false .int := ⟨RX0, TX0, 5, tyX0, rfl, wI_X0, tyX0_ok, nmX0, by decide, by decide, rfl, wd_7_18, rfl, rfl, rfl⟩
theorem fl_RX0_24 : aFl RX0 24 0 4 false .int := ⟨RX0, TX0, 5, tyX0, rfl, wI_X0, tyX0_ok, nmX0, by decide, by decide, rfl, wd_7_19, rfl, rfl, rfl⟩
theorem fl_RX0_31 : aFl RX0 31 4 4 true .int := ⟨RX4, TX4, 8, tyX4, rfl, wI_X4, tyX4_ok, nmX4, by decide, by decide, rfl, wd_49_7, rfl, rfl, rfl⟩
theorem fl_RX0_36 : aFl RX0 36 4 5 true .int := ⟨RX4, TX4, 8, tyX4, rfl, wI_X4, tyX4_ok, nmX4, by decide, by decide, rfl, wd_49_8, rfl, rfl, rfl⟩
theorem fl_RX0_39 : aFl RX0 39 4 2 true .int := ⟨RX4, TX4, 8, tyX4, rfl, wI_X4, tyX4_ok, nmX4, by decide, by decide, rfl, wd_49_9, rfl, rfl, rfl⟩
theorem fl_RX1_7 : aFl RX1 7 1 0 false .int := ⟨RX1, TX1, 4, tyX1, rfl, wI_X1, tyX1_ok, nmX1, by decide, by decide, rfl, wd_7_8, rfl, rfl, rfl⟩
theorem fl_RX1_13 : aFl RX1 13 1 1 false .int := ⟨RX1, TX1, 4, tyX1, rfl, wI_X1, tyX1_ok, nmX1, by decide, by decide, rfl, wd_7_9, rfl, rfl, rfl⟩
theorem fl_RX1_16 : aFl RX1 16 1 2 false .int := ⟨RX1, TX1, 4, tyX1, rfl, wI_X1, tyX1_ok, nmX1, by decide, by decide, rfl, wd_7_10, rfl, rfl, rfl⟩
theorem fl_RX1_19 : aFl RX1 19 1 3 false .int := ⟨RX1, TX1, 4, tyX1, rfl, wI_X1, tyX1_ok, nmX1, by decide, by decide, rfl, wd_7_11, rfl, rfl, rfl⟩
theorem fl_RX1_22 : aFl RX1 22 3 2 false .int := ⟨RX3, TX3, 4, tyX3, rfl, wI_X3, tyX3_ok, nmX3, by decide, by decide, rfl, wd_45_17, rfl, rfl, rfl⟩
theorem fl_RX1_31 : aFl RX1 31 4 1 true .int := ⟨RX4, TX4, 8, tyX4, rfl, wI_X4, tyX4_ok, nmX4, by decide, by decide, rfl, wd_45_18, rfl, rfl, rfl⟩
theorem fl_RX1_36 : aFl RX1 36 4 5 true .int := ⟨RX4, TX4, 8, tyX4, rfl, wI_X4, tyX4_ok, nmX4, by decide, by decide, rfl, wd_45_19, rfl, rfl, rfl⟩
theorem fl_RX10_9 : aFl RX10 9 10 0 true (.array .int) := ⟨RX10, TX10, 6, tyX10, rfl, wI_X10, tyX10_ok, nmX10, by decide, by decide, rfl, wd_3_15, rfl, rfl, rfl⟩
theorem fl_RX10_13 : aFl RX10 13 10 1 true (.array .int) := ⟨RX10, TX10, 6, tyX10, rfl, wI_X10, tyX10_ok, nmX10, by decide, by decide, rfl, wd_3_16, rfl, rfl, rfl⟩
theorem fl_RX10_16 : aFl RX10 16 10 2 true (.array .int) := ⟨RX10, TX10, 6, tyX10, rfl, wI_X10, tyX10_ok, nmX10, by decide, by decide, rfl, wd_3_17, rfl, rfl, rfl⟩
theorem fl_RX10_19 : aFl RX10 19 10 3 false .int := ⟨RX10, TX10, 6, tyX10, rfl, wI_X10, tyX10_ok, nmX10, by decide, by decide, rfl, wd_3_18, rfl, rfl, rfl⟩
theorem fl_RX10_23 : aFl RX10 23 10 4 true (.array .byte) := ⟨RX10, TX10, 6, tyX10, rfl, wI_X10, tyX10_ok, nmX10, by decide, by decide, rfl, wd_3_20, rfl, rfl, rfl⟩
theorem fl_RX10_27 : aFl RX10 27 10 5 false .int := ⟨RX10, TX10, 6, tyX10, rfl, wI_X10, tyX10_ok, nmX10, by decide, by decide, rfl, wd_3_21, rfl, rfl, rfl⟩
theorem fl_RX11_11 : aFl RX11 11 11 0 true (.array (.object "OddPayments$Sheet")) := ⟨RX11, TX11, 11, tyX11, rfl, wI_X11, tyX11_ok, nmX11, by decide, by decide, rfl, wd_1_14, rfl, rfl, rfl⟩
theorem fl_RX11_18 : aFl RX11 18 11 1 true (.object "OddPayments$Ledger") := ⟨RX11, TX11, 11, tyX11, rfl, wI_X11, tyX11_ok, nmX11, by decide, by decide, rfl, wd_1_18, rfl, rfl, rfl⟩
theorem fl_RX11_25 : aFl RX11 25 11 2 true (.object "OddPayments$Tape") := ⟨RX11, TX11, 11, tyX11, rfl, wI_X11, tyX11_ok, nmX11, by decide, by decide, rfl, wd_1_22, rfl, rfl, rfl⟩
theorem fl_RX11_34 : aFl RX11 34 11 3 true (.object "OddPayments$Reader") := ⟨RX11, TX11, 11, tyX11, rfl, wI_X11, tyX11_ok, nmX11, by decide, by decide, rfl, wd_2_2, rfl, rfl, rfl⟩
theorem fl_RX11_43 : aFl RX11 43 11 4 true (.object "OddPayments$Judge") := ⟨RX11, TX11, 11, tyX11, rfl, wI_X11, tyX11_ok, nmX11, by decide, by decide, rfl, wd_2_6, rfl, rfl, rfl⟩
theorem fl_RX11_52 : aFl RX11 52 11 5 true (.object "OddPayments$Pricer") := ⟨RX11, TX11, 11, tyX11, rfl, wI_X11, tyX11_ok, nmX11, by decide, by decide, rfl, wd_2_10, rfl, rfl, rfl⟩
theorem fl_RX11_59 : aFl RX11 59 11 6 true (.object "OddPayments$Drift") := ⟨RX11, TX11, 11, tyX11, rfl, wI_X11, tyX11_ok, nmX11, by decide, by decide, rfl, wd_2_14, rfl, rfl, rfl⟩
theorem fl_RX11_66 : aFl RX11 66 11 7 true (.object "OddPayments$Asker") := ⟨RX11, TX11, 11, tyX11, rfl, wI_X11, tyX11_ok, nmX11, by decide, by decide, rfl, wd_2_18, rfl, rfl, rfl⟩
theorem fl_RX11_73 : aFl RX11 73 11 8 false (.object "OddPayments$RuleBook") := ⟨RX11, TX11, 11, tyX11, rfl, wI_X11, tyX11_ok, nmX11, by decide, by decide, rfl, wd_2_22, rfl, rfl, rfl⟩
theorem fl_RX11_77 : aFl RX11 77 11 9 false .int := ⟨RX11, TX11, 11, tyX11, rfl, wI_X11, tyX11_ok, nmX11, by decide, by decide, rfl, wd_2_23, rfl, rfl, rfl⟩
theorem fl_RX11_81 : aFl RX11 81 11 10 false .int := ⟨RX11, TX11, 11, tyX11, rfl, wI_X11, tyX11_ok, nmX11, by decide, by decide, rfl, wd_3_0, rfl, rfl, rfl⟩
theorem fl_RX11_105 : aFl RX11 105 9 1 false .boolean := ⟨RX9, TX9, 4, tyX9, rfl, wI_X9, tyX9_ok, nmX9, by decide, by decide, rfl, wd_11_15, rfl, rfl, rfl⟩
theorem fl_RX11_117 : aFl RX11 117 9 2 false .int := ⟨RX9, TX9, 4, tyX9, rfl, wI_X9, tyX9_ok, nmX9, by decide, by decide, rfl, wd_12_9, rfl, rfl, rfl⟩
theorem fl_RX11_120 : aFl RX11 120 9 0 true (.array .int) := ⟨RX9, TX9, 4, tyX9, rfl, wI_X9, tyX9_ok, nmX9, by decide, by decide, rfl, wd_12_10, rfl, rfl, rfl⟩
theorem fl_RX11_130 : aFl RX11 130 9 3 false .int := ⟨RX9, TX9, 4, tyX9, rfl, wI_X9, tyX9_ok, nmX9, by decide, by decide, rfl, wd_12_23, rfl, rfl, rfl⟩
theorem fl_RX11_145 : aFl RX11 145 4 6 true .int := ⟨RX4, TX4, 8, tyX4, rfl, wI_X4, tyX4_ok, nmX4, by decide, by decide, rfl, wd_13_19, rfl, rfl, rfl⟩
theorem fl_RX11_150 : aFl RX11 150 4 1 true .int := ⟨RX4, TX4, 8, tyX4, rfl, wI_X4, tyX4_ok, nmX4, by decide, by decide, rfl, wd_16_16, rfl, rfl, rfl⟩
theorem fl_RX11_153 : aFl RX11 153 4 2 true .int := ⟨RX4, TX4, 8, tyX4, rfl, wI_X4, tyX4_ok, nmX4, by decide, by decide, rfl, wd_16_17, rfl, rfl, rfl⟩
theorem fl_RX11_156 : aFl RX11 156 4 3 true .int := ⟨RX4, TX4, 8, tyX4, rfl, wI_X4, tyX4_ok, nmX4, by decide, by decide, rfl, wd_16_18, rfl, rfl, rfl⟩
theorem fl_RX11_159 : aFl RX11 159 4 4 true .int := ⟨RX4, TX4, 8, tyX4, rfl, wI_X4, tyX4_ok, nmX4, by decide, by decide, rfl, wd_16_19, rfl, rfl, rfl⟩
theorem fl_RX11_162 : aFl RX11 162 4 5 true .int := ⟨RX4, TX4, 8, tyX4, rfl, wI_X4, tyX4_ok, nmX4, by decide, by decide, rfl, wd_16_20, rfl, rfl, rfl⟩
theorem fl_RX11_165 : aFl RX11 165 4 7 false .int := ⟨RX4, TX4, 8, tyX4, rfl, wI_X4, tyX4_ok, nmX4, by decide, by decide, rfl, wd_16_21, rfl, rfl, rfl⟩
theorem fl_RX11_172 : aFl RX11 172 4 0 true .int := ⟨RX4, TX4, 8, tyX4, rfl, wI_X4, tyX4_ok, nmX4, by decide, by decide, rfl, wd_17_8, rfl, rfl, rfl⟩
theorem fl_RX11_191 : aFl RX11 191 7 0 true (.array .int) := ⟨RX7, TX7, 7, tyX7, rfl, wI_X7, tyX7_ok, nmX7, by decide, by decide, rfl, wd_18_14, rfl, rfl, rfl⟩
theorem fl_RX11_194 : aFl RX11 194 7 1 false .int := ⟨RX7, TX7, 7, tyX7, rfl, wI_X7, tyX7_ok, nmX7, by decide, by decide, rfl, wd_22_1, rfl, rfl, rfl⟩
theorem fl_RX11_197 : aFl RX11 197 10 3 false .int := ⟨RX10, TX10, 6, tyX10, rfl, wI_X10, tyX10_ok, nmX10, by decide, by decide, rfl, wd_22_10, rfl, rfl, rfl⟩
theorem fl_RX11_207 : aFl RX11 207 6 0 false .int := ⟨RX6, TX6, 7, tyX6, rfl, wI_X6, tyX6_ok, nmX6, by decide, by decide, rfl, wd_23_2, rfl, rfl, rfl⟩
theorem fl_RX11_211 : aFl RX11 211 6 1 false .int := ⟨RX6, TX6, 7, tyX6, rfl, wI_X6, tyX6_ok, nmX6, by decide, by decide, rfl, wd_23_4, rfl, rfl, rfl⟩
theorem fl_RX11_214 : aFl RX11 214 2 0 false (.object "OddPayments$RuleBook") := ⟨RX2, TX2, 8, tyX2, rfl, wI_X2, tyX2_ok, nmX2, by decide, by decide, rfl, wd_23_5, rfl, rfl, rfl⟩
theorem fl_RX11_221 : aFl RX11 221 8 1 false .int := ⟨RX8, TX8, 7, tyX8, rfl, wI_X8, tyX8_ok, nmX8, by decide, by decide, rfl, wd_23_6, rfl, rfl, rfl⟩
theorem fl_RX11_222 : aFl RX11 222 8 0 true (.array .int) := ⟨RX8, TX8, 7, tyX8, rfl, wI_X8, tyX8_ok, nmX8, by decide, by decide, rfl, wd_33_10, rfl, rfl, rfl⟩
theorem fl_RX11_252 : aFl RX11 252 2 2 false .int := ⟨RX2, TX2, 8, tyX2, rfl, wI_X2, tyX2_ok, nmX2, by decide, by decide, rfl, wd_39_0, rfl, rfl, rfl⟩
theorem fl_RX11_255 : aFl RX11 255 2 1 true (.array (.object "OddPayments$Payment")) := ⟨RX2, TX2, 8, tyX2, rfl, wI_X2, tyX2_ok, nmX2, by decide, by decide, rfl, wd_39_1, rfl, rfl, rfl⟩
theorem fl_RX11_259 : aFl RX11 259 5 0 false .int := ⟨RX5, TX5, 13, tyX5, rfl, wI_X5, tyX5_ok, nmX5, by decide, by decide, rfl, wd_40_3, rfl, rfl, rfl⟩
theorem fl_RX11_262 : aFl RX11 262 5 1 false .int := ⟨RX5, TX5, 13, tyX5, rfl, wI_X5, tyX5_ok, nmX5, by decide, by decide, rfl, wd_40_4, rfl, rfl, rfl⟩
theorem fl_RX11_274 : aFl RX11 274 5 4 false .long := ⟨RX5, TX5, 13, tyX5, rfl, wI_X5, tyX5_ok, nmX5, by decide, by decide, rfl, wd_42_6, rfl, rfl, rfl⟩
theorem fl_RX11_278 : aFl RX11 278 5 2 false .int := ⟨RX5, TX5, 13, tyX5, rfl, wI_X5, tyX5_ok, nmX5, by decide, by decide, rfl, wd_42_7, rfl, rfl, rfl⟩
theorem fl_RX11_281 : aFl RX11 281 5 3 false .int := ⟨RX5, TX5, 13, tyX5, rfl, wI_X5, tyX5_ok, nmX5, by decide, by decide, rfl, wd_42_8, rfl, rfl, rfl⟩
theorem fl_RX11_300 : aFl RX11 300 1 0 false .int := ⟨RX1, TX1, 4, tyX1, rfl, wI_X1, tyX1_ok, nmX1, by decide, by decide, rfl, wd_45_6, rfl, rfl, rfl⟩
theorem fl_RX11_303 : aFl RX11 303 1 1 false .int := ⟨RX1, TX1, 4, tyX1, rfl, wI_X1, tyX1_ok, nmX1, by decide, by decide, rfl, wd_45_7, rfl, rfl, rfl⟩
theorem fl_RX11_324 : aFl RX11 324 0 1 false .int := ⟨RX0, TX0, 5, tyX0, rfl, wI_X0, tyX0_ok, nmX0, by decide, by decide, rfl, wd_50_11, rfl, rfl, rfl⟩
theorem fl_RX11_327 : aFl RX11 327 0 0 true (.array .int) := ⟨RX0, TX0, 5, tyX0, rfl, wI_X0, tyX0_ok, nmX0, by decide, by decide, rfl, wd_50_12, rfl, rfl, rfl⟩
theorem fl_RX11_333 : aFl RX11 333 3 2 false .int := ⟨RX3, TX3, 4, tyX3, rfl, wI_X3, tyX3_ok, nmX3, by decide, by decide, rfl, wd_13_14, rfl, rfl, rfl⟩
theorem fl_RX11_337 : aFl RX11 337 3 3 false .int := ⟨RX3, TX3, 4, tyX3, rfl, wI_X3, tyX3_ok, nmX3, by decide, by decide, rfl, wd_50_21, rfl, rfl, rfl⟩
theorem fl_RX12_7 : aFl RX12 7 12 2 true (.array .int) := ⟨RX12, TX12, 47, tyX12, rfl, wI_X12, tyX12_ok, nmX12, by decide, by decide, rfl, wd_8_8, rfl, rfl, rfl⟩
theorem fl_RX12_13 : aFl RX12 13 12 3 true (.array .int) := ⟨RX12, TX12, 47, tyX12, rfl, wI_X12, tyX12_ok, nmX12, by decide, by decide, rfl, wd_8_9, rfl, rfl, rfl⟩
theorem fl_RX12_16 : aFl RX12 16 12 4 true (.array .int) := ⟨RX12, TX12, 47, tyX12, rfl, wI_X12, tyX12_ok, nmX12, by decide, by decide, rfl, wd_8_10, rfl, rfl, rfl⟩
theorem fl_RX12_19 : aFl RX12 19 12 6 true (.array .int) := ⟨RX12, TX12, 47, tyX12, rfl, wI_X12, tyX12_ok, nmX12, by decide, by decide, rfl, wd_8_11, rfl, rfl, rfl⟩
theorem fl_RX12_22 : aFl RX12 22 12 7 true (.array .int) := ⟨RX12, TX12, 47, tyX12, rfl, wI_X12, tyX12_ok, nmX12, by decide, by decide, rfl, wd_8_12, rfl, rfl, rfl⟩
theorem fl_RX12_25 : aFl RX12 25 12 8 true (.array .int) := ⟨RX12, TX12, 47, tyX12, rfl, wI_X12, tyX12_ok, nmX12, by decide, by decide, rfl, wd_8_13, rfl, rfl, rfl⟩
theorem fl_RX12_28 : aFl RX12 28 12 9 true (.array .int) := ⟨RX12, TX12, 47, tyX12, rfl, wI_X12, tyX12_ok, nmX12, by decide, by decide, rfl, wd_8_14, rfl, rfl, rfl⟩
theorem fl_RX12_31 : aFl RX12 31 12 10 true (.array .int) := ⟨RX12, TX12, 47, tyX12, rfl, wI_X12, tyX12_ok, nmX12, by decide, by decide, rfl, wd_8_15, rfl, rfl, rfl⟩
theorem fl_RX12_34 : aFl RX12 34 12 11 true (.array .int) := ⟨RX12, TX12, 47, tyX12, rfl, wI_X12, tyX12_ok, nmX12, by decide, by decide, rfl, wd_8_16, rfl, rfl, rfl⟩
theorem fl_RX12_37 : aFl RX12 37 12 12 true (.array .int) := ⟨RX12, TX12, 47, tyX12, rfl, wI_X12, tyX12_ok, nmX12, by decide, by decide, rfl, wd_8_17, rfl, rfl, rfl⟩
theorem fl_RX12_40 : aFl RX12 40 12 13 true (.array .int) := ⟨RX12, TX12, 47, tyX12, rfl, wI_X12, tyX12_ok, nmX12, by decide, by decide, rfl, wd_8_18, rfl, rfl, rfl⟩
theorem fl_RX12_43 : aFl RX12 43 12 15 false .int := ⟨RX12, TX12, 47, tyX12, rfl, wI_X12, tyX12_ok, nmX12, by decide, by decide, rfl, wd_8_19, rfl, rfl, rfl⟩
theorem fl_RX12_47 : aFl RX12 47 12 16 false .int := ⟨RX12, TX12, 47, tyX12, rfl, wI_X12, tyX12_ok, nmX12, by decide, by decide, rfl, wd_8_20, rfl, rfl, rfl⟩
theorem fl_RX12_50 : aFl RX12 50 12 17 false .int := ⟨RX12, TX12, 47, tyX12, rfl, wI_X12, tyX12_ok, nmX12, by decide, by decide, rfl, wd_8_21, rfl, rfl, rfl⟩
theorem fl_RX12_53 : aFl RX12 53 12 18 false .int := ⟨RX12, TX12, 47, tyX12, rfl, wI_X12, tyX12_ok, nmX12, by decide, by decide, rfl, wd_8_22, rfl, rfl, rfl⟩
theorem fl_RX12_56 : aFl RX12 56 12 19 true (.array .int) := ⟨RX12, TX12, 47, tyX12, rfl, wI_X12, tyX12_ok, nmX12, by decide, by decide, rfl, wd_8_23, rfl, rfl, rfl⟩
theorem fl_RX12_59 : aFl RX12 59 12 21 true (.array .int) := ⟨RX12, TX12, 47, tyX12, rfl, wI_X12, tyX12_ok, nmX12, by decide, by decide, rfl, wd_9_0, rfl, rfl, rfl⟩
theorem fl_RX12_62 : aFl RX12 62 12 22 true (.array .int) := ⟨RX12, TX12, 47, tyX12, rfl, wI_X12, tyX12_ok, nmX12, by decide, by decide, rfl, wd_9_1, rfl, rfl, rfl⟩
theorem fl_RX12_65 : aFl RX12 65 12 23 true (.array .int) := ⟨RX12, TX12, 47, tyX12, rfl, wI_X12, tyX12_ok, nmX12, by decide, by decide, rfl, wd_9_2, rfl, rfl, rfl⟩
theorem fl_RX12_68 : aFl RX12 68 12 25 true (.array .int) := ⟨RX12, TX12, 47, tyX12, rfl, wI_X12, tyX12_ok, nmX12, by decide, by decide, rfl, wd_9_3, rfl, rfl, rfl⟩
theorem fl_RX12_71 : aFl RX12 71 12 26 true (.array .int) := ⟨RX12, TX12, 47, tyX12, rfl, wI_X12, tyX12_ok, nmX12, by decide, by decide, rfl, wd_9_4, rfl, rfl, rfl⟩
theorem fl_RX12_74 : aFl RX12 74 12 27 true (.array .int) := ⟨RX12, TX12, 47, tyX12, rfl, wI_X12, tyX12_ok, nmX12, by decide, by decide, rfl, wd_9_5, rfl, rfl, rfl⟩
theorem fl_RX12_77 : aFl RX12 77 12 28 true (.array .int) := ⟨RX12, TX12, 47, tyX12, rfl, wI_X12, tyX12_ok, nmX12, by decide, by decide, rfl, wd_9_6, rfl, rfl, rfl⟩
theorem fl_RX12_80 : aFl RX12 80 12 29 true (.array .int) := ⟨RX12, TX12, 47, tyX12, rfl, wI_X12, tyX12_ok, nmX12, by decide, by decide, rfl, wd_9_7, rfl, rfl, rfl⟩
theorem fl_RX12_83 : aFl RX12 83 12 39 true (.array .int) := ⟨RX12, TX12, 47, tyX12, rfl, wI_X12, tyX12_ok, nmX12, by decide, by decide, rfl, wd_9_8, rfl, rfl, rfl⟩
theorem fl_RX12_86 : aFl RX12 86 12 41 true (.array .int) := ⟨RX12, TX12, 47, tyX12, rfl, wI_X12, tyX12_ok, nmX12, by decide, by decide, rfl, wd_9_9, rfl, rfl, rfl⟩
theorem fl_RX12_89 : aFl RX12 89 12 42 true (.array .int) := ⟨RX12, TX12, 47, tyX12, rfl, wI_X12, tyX12_ok, nmX12, by decide, by decide, rfl, wd_9_10, rfl, rfl, rfl⟩
theorem fl_RX12_92 : aFl RX12 92 12 43 true (.array .int) := ⟨RX12, TX12, 47, tyX12, rfl, wI_X12, tyX12_ok, nmX12, by decide, by decide, rfl, wd_9_11, rfl, rfl, rfl⟩
theorem fl_RX12_95 : aFl RX12 95 12 44 true (.array .long) := ⟨RX12, TX12, 47, tyX12, rfl, wI_X12, tyX12_ok, nmX12, by decide, by decide, rfl, wd_9_12, rfl, rfl, rfl⟩
theorem fl_RX12_99 : aFl RX12 99 12 45 true (.array .int) := ⟨RX12, TX12, 47, tyX12, rfl, wI_X12, tyX12_ok, nmX12, by decide, by decide, rfl, wd_9_13, rfl, rfl, rfl⟩
theorem fl_RX12_102 : aFl RX12 102 12 0 false .int := ⟨RX12, TX12, 47, tyX12, rfl, wI_X12, tyX12_ok, nmX12, by decide, by decide, rfl, wd_10_19, rfl, rfl, rfl⟩
theorem fl_RX12_105 : aFl RX12 105 12 1 false .int := ⟨RX12, TX12, 47, tyX12, rfl, wI_X12, tyX12_ok, nmX12, by decide, by decide, rfl, wd_10_22, rfl, rfl, rfl⟩
theorem fl_RX12_127 : aFl RX12 127 12 5 false .int := ⟨RX12, TX12, 47, tyX12, rfl, wI_X12, tyX12_ok, nmX12, by decide, by decide, rfl, wd_15_13, rfl, rfl, rfl⟩
theorem fl_RX12_155 : aFl RX12 155 12 14 false .int := ⟨RX12, TX12, 47, tyX12, rfl, wI_X12, tyX12_ok, nmX12, by decide, by decide, rfl, wd_18_9, rfl, rfl, rfl⟩
theorem fl_RX12_183 : aFl RX12 183 12 30 false .int := ⟨RX12, TX12, 47, tyX12, rfl, wI_X12, tyX12_ok, nmX12, by decide, by decide, rfl, wd_22_20, rfl, rfl, rfl⟩
theorem fl_RX12_188 : aFl RX12 188 12 32 false .int := ⟨RX12, TX12, 47, tyX12, rfl, wI_X12, tyX12_ok, nmX12, by decide, by decide, rfl, wd_29_18, rfl, rfl, rfl⟩
theorem fl_RX12_191 : aFl RX12 191 12 33 false .int := ⟨RX12, TX12, 47, tyX12, rfl, wI_X12, tyX12_ok, nmX12, by decide, by decide, rfl, wd_29_19, rfl, rfl, rfl⟩
theorem fl_RX12_197 : aFl RX12 197 12 35 false .int := ⟨RX12, TX12, 47, tyX12, rfl, wI_X12, tyX12_ok, nmX12, by decide, by decide, rfl, wd_30_7, rfl, rfl, rfl⟩
theorem fl_RX12_200 : aFl RX12 200 12 34 false .int := ⟨RX12, TX12, 47, tyX12, rfl, wI_X12, tyX12_ok, nmX12, by decide, by decide, rfl, wd_29_22, rfl, rfl, rfl⟩
theorem fl_RX12_209 : aFl RX12 209 12 36 false .int := ⟨RX12, TX12, 47, tyX12, rfl, wI_X12, tyX12_ok, nmX12, by decide, by decide, rfl, wd_30_8, rfl, rfl, rfl⟩
theorem fl_RX12_212 : aFl RX12 212 12 37 false .int := ⟨RX12, TX12, 47, tyX12, rfl, wI_X12, tyX12_ok, nmX12, by decide, by decide, rfl, wd_29_20, rfl, rfl, rfl⟩
theorem fl_RX12_215 : aFl RX12 215 12 38 false .int := ⟨RX12, TX12, 47, tyX12, rfl, wI_X12, tyX12_ok, nmX12, by decide, by decide, rfl, wd_30_1, rfl, rfl, rfl⟩
theorem fl_RX12_253 : aFl RX12 253 12 24 false .int := ⟨RX12, TX12, 47, tyX12, rfl, wI_X12, tyX12_ok, nmX12, by decide, by decide, rfl, wd_29_21, rfl, rfl, rfl⟩
theorem fl_RX12_288 : aFl RX12 288 12 31 false .int := ⟨RX12, TX12, 47, tyX12, rfl, wI_X12, tyX12_ok, nmX12, by decide, by decide, rfl, wd_29_23, rfl, rfl, rfl⟩
theorem fl_RX12_292 : aFl RX12 292 12 20 false .int := ⟨RX12, TX12, 47, tyX12, rfl, wI_X12, tyX12_ok, nmX12, by decide, by decide, rfl, wd_30_2, rfl, rfl, rfl⟩
theorem fl_RX12_314 : aFl RX12 314 12 40 false .int := ⟨RX12, TX12, 47, tyX12, rfl, wI_X12, tyX12_ok, nmX12, by decide, by decide, rfl, wd_39_18, rfl, rfl, rfl⟩
theorem fl_RX12_352 : aFl RX12 352 12 46 false .int := ⟨RX12, TX12, 47, tyX12, rfl, wI_X12, tyX12_ok, nmX12, by decide, by decide, rfl, wd_49_14, rfl, rfl, rfl⟩
theorem fl_RX2_12 : aFl RX2 12 2 0 false (.object "OddPayments$RuleBook") := ⟨RX2, TX2, 8, tyX2, rfl, wI_X2, tyX2_ok, nmX2, by decide, by decide, rfl, wd_4_14, rfl, rfl, rfl⟩
theorem fl_RX2_20 : aFl RX2 20 2 1 true (.array (.object "OddPayments$Payment")) := ⟨RX2, TX2, 8, tyX2, rfl, wI_X2, tyX2_ok, nmX2, by decide, by decide, rfl, wd_4_16, rfl, rfl, rfl⟩
theorem fl_RX2_24 : aFl RX2 24 2 2 false .int := ⟨RX2, TX2, 8, tyX2, rfl, wI_X2, tyX2_ok, nmX2, by decide, by decide, rfl, wd_4_17, rfl, rfl, rfl⟩
theorem fl_RX2_31 : aFl RX2 31 2 4 true (.object "OddPayments$Row") := ⟨RX2, TX2, 8, tyX2, rfl, wI_X2, tyX2_ok, nmX2, by decide, by decide, rfl, wd_4_21, rfl, rfl, rfl⟩
theorem fl_RX2_35 : aFl RX2 35 2 5 true (.array .int) := ⟨RX2, TX2, 8, tyX2, rfl, wI_X2, tyX2_ok, nmX2, by decide, by decide, rfl, wd_4_22, rfl, rfl, rfl⟩
theorem fl_RX2_39 : aFl RX2 39 2 6 true (.array .int) := ⟨RX2, TX2, 8, tyX2, rfl, wI_X2, tyX2_ok, nmX2, by decide, by decide, rfl, wd_4_23, rfl, rfl, rfl⟩
theorem fl_RX2_42 : aFl RX2 42 2 7 true (.array .long) := ⟨RX2, TX2, 8, tyX2, rfl, wI_X2, tyX2_ok, nmX2, by decide, by decide, rfl, wd_5_1, rfl, rfl, rfl⟩
theorem fl_RX2_46 : aFl RX2 46 2 3 true (.object "OddPayments$Ledger") := ⟨RX2, TX2, 8, tyX2, rfl, wI_X2, tyX2_ok, nmX2, by decide, by decide, rfl, wd_5_2, rfl, rfl, rfl⟩
theorem fl_RX2_71 : aFl RX2 71 4 6 true .int := ⟨RX4, TX4, 8, tyX4, rfl, wI_X4, tyX4_ok, nmX4, by decide, by decide, rfl, wd_34_3, rfl, rfl, rfl⟩
theorem fl_RX2_78 : aFl RX2 78 7 0 true (.array .int) := ⟨RX7, TX7, 7, tyX7, rfl, wI_X7, tyX7_ok, nmX7, by decide, by decide, rfl, wd_34_4, rfl, rfl, rfl⟩
theorem fl_RX2_102 : aFl RX2 102 8 0 true (.array .int) := ⟨RX8, TX8, 7, tyX8, rfl, wI_X8, tyX8_ok, nmX8, by decide, by decide, rfl, wd_35_9, rfl, rfl, rfl⟩
theorem fl_RX2_109 : aFl RX2 109 4 7 false .int := ⟨RX4, TX4, 8, tyX4, rfl, wI_X4, tyX4_ok, nmX4, by decide, by decide, rfl, wd_39_6, rfl, rfl, rfl⟩
theorem fl_RX2_112 : aFl RX2 112 3 2 false .int := ⟨RX3, TX3, 4, tyX3, rfl, wI_X3, tyX3_ok, nmX3, by decide, by decide, rfl, wd_37_22, rfl, rfl, rfl⟩
theorem fl_RX2_122 : aFl RX2 122 4 4 true .int := ⟨RX4, TX4, 8, tyX4, rfl, wI_X4, tyX4_ok, nmX4, by decide, by decide, rfl, wd_39_8, rfl, rfl, rfl⟩
theorem fl_RX3_11 : aFl RX3 11 3 0 true (.array (.object "OddPayments$Payment")) := ⟨RX3, TX3, 4, tyX3, rfl, wI_X3, tyX3_ok, nmX3, by decide, by decide, rfl, wd_3_7, rfl, rfl, rfl⟩
theorem fl_RX3_17 : aFl RX3 17 3 1 true (.array (.object "OddPayments$Payment")) := ⟨RX3, TX3, 4, tyX3, rfl, wI_X3, tyX3_ok, nmX3, by decide, by decide, rfl, wd_3_8, rfl, rfl, rfl⟩
theorem fl_RX3_20 : aFl RX3 20 3 2 false .int := ⟨RX3, TX3, 4, tyX3, rfl, wI_X3, tyX3_ok, nmX3, by decide, by decide, rfl, wd_3_9, rfl, rfl, rfl⟩
theorem fl_RX3_24 : aFl RX3 24 3 3 false .int := ⟨RX3, TX3, 4, tyX3, rfl, wI_X3, tyX3_ok, nmX3, by decide, by decide, rfl, wd_3_10, rfl, rfl, rfl⟩
theorem fl_RX3_35 : aFl RX3 35 4 0 true .int := ⟨RX4, TX4, 8, tyX4, rfl, wI_X4, tyX4_ok, nmX4, by decide, by decide, rfl, wd_14_17, rfl, rfl, rfl⟩
theorem fl_RX3_38 : aFl RX3 38 4 7 false .int := ⟨RX4, TX4, 8, tyX4, rfl, wI_X4, tyX4_ok, nmX4, by decide, by decide, rfl, wd_51_6, rfl, rfl, rfl⟩
theorem fl_RX3_41 : aFl RX3 41 4 2 true .int := ⟨RX4, TX4, 8, tyX4, rfl, wI_X4, tyX4_ok, nmX4, by decide, by decide, rfl, wd_47_10, rfl, rfl, rfl⟩
theorem fl_RX3_44 : aFl RX3 44 4 1 true .int := ⟨RX4, TX4, 8, tyX4, rfl, wI_X4, tyX4_ok, nmX4, by decide, by decide, rfl, wd_47_11, rfl, rfl, rfl⟩
theorem fl_RX4_10 : aFl RX4 10 4 7 false .int := ⟨RX4, TX4, 8, tyX4, rfl, wI_X4, tyX4_ok, nmX4, by decide, by decide, rfl, wd_14_5, rfl, rfl, rfl⟩
theorem fl_RX4_16 : aFl RX4 16 4 0 true .int := ⟨RX4, TX4, 8, tyX4, rfl, wI_X4, tyX4_ok, nmX4, by decide, by decide, rfl, wd_14_6, rfl, rfl, rfl⟩
theorem fl_RX4_19 : aFl RX4 19 4 1 true .int := ⟨RX4, TX4, 8, tyX4, rfl, wI_X4, tyX4_ok, nmX4, by decide, by decide, rfl, wd_14_7, rfl, rfl, rfl⟩
theorem fl_RX4_22 : aFl RX4 22 4 2 true .int := ⟨RX4, TX4, 8, tyX4, rfl, wI_X4, tyX4_ok, nmX4, by decide, by decide, rfl, wd_14_8, rfl, rfl, rfl⟩
theorem fl_RX4_25 : aFl RX4 25 4 3 true .int := ⟨RX4, TX4, 8, tyX4, rfl, wI_X4, tyX4_ok, nmX4, by decide, by decide, rfl, wd_14_9, rfl, rfl, rfl⟩
theorem fl_RX4_28 : aFl RX4 28 4 4 true .int := ⟨RX4, TX4, 8, tyX4, rfl, wI_X4, tyX4_ok, nmX4, by decide, by decide, rfl, wd_14_10, rfl, rfl, rfl⟩
theorem fl_RX4_31 : aFl RX4 31 4 5 true .int := ⟨RX4, TX4, 8, tyX4, rfl, wI_X4, tyX4_ok, nmX4, by decide, by decide, rfl, wd_14_11, rfl, rfl, rfl⟩
theorem fl_RX4_34 : aFl RX4 34 4 6 true .int := ⟨RX4, TX4, 8, tyX4, rfl, wI_X4, tyX4_ok, nmX4, by decide, by decide, rfl, wd_14_12, rfl, rfl, rfl⟩
theorem fl_RX5_9 : aFl RX5 9 5 0 false .int := ⟨RX5, TX5, 13, tyX5, rfl, wI_X5, tyX5_ok, nmX5, by decide, by decide, rfl, wd_6_16, rfl, rfl, rfl⟩
theorem fl_RX5_15 : aFl RX5 15 5 1 false .int := ⟨RX5, TX5, 13, tyX5, rfl, wI_X5, tyX5_ok, nmX5, by decide, by decide, rfl, wd_6_17, rfl, rfl, rfl⟩
theorem fl_RX5_18 : aFl RX5 18 5 2 false .int := ⟨RX5, TX5, 13, tyX5, rfl, wI_X5, tyX5_ok, nmX5, by decide, by decide, rfl, wd_6_18, rfl, rfl, rfl⟩
theorem fl_RX5_21 : aFl RX5 21 5 3 false .int := ⟨RX5, TX5, 13, tyX5, rfl, wI_X5, tyX5_ok, nmX5, by decide, by decide, rfl, wd_6_19, rfl, rfl, rfl⟩
theorem fl_RX5_24 : aFl RX5 24 5 4 false .long := ⟨RX5, TX5, 13, tyX5, rfl, wI_X5, tyX5_ok, nmX5, by decide, by decide, rfl, wd_6_20, rfl, rfl, rfl⟩
theorem fl_RX5_28 : aFl RX5 28 5 7 true (.array .int) := ⟨RX5, TX5, 13, tyX5, rfl, wI_X5, tyX5_ok, nmX5, by decide, by decide, rfl, wd_6_21, rfl, rfl, rfl⟩
theorem fl_RX5_32 : aFl RX5 32 5 8 true (.array .int) := ⟨RX5, TX5, 13, tyX5, rfl, wI_X5, tyX5_ok, nmX5, by decide, by decide, rfl, wd_6_22, rfl, rfl, rfl⟩
theorem fl_RX5_35 : aFl RX5 35 5 9 false .int := ⟨RX5, TX5, 13, tyX5, rfl, wI_X5, tyX5_ok, nmX5, by decide, by decide, rfl, wd_6_23, rfl, rfl, rfl⟩
theorem fl_RX5_38 : aFl RX5 38 5 10 true (.array .int) := ⟨RX5, TX5, 13, tyX5, rfl, wI_X5, tyX5_ok, nmX5, by decide, by decide, rfl, wd_7_0, rfl, rfl, rfl⟩
theorem fl_RX5_41 : aFl RX5 41 5 11 false .int := ⟨RX5, TX5, 13, tyX5, rfl, wI_X5, tyX5_ok, nmX5, by decide, by decide, rfl, wd_7_1, rfl, rfl, rfl⟩
theorem fl_RX5_46 : aFl RX5 46 5 12 true (.array .int) := ⟨RX5, TX5, 13, tyX5, rfl, wI_X5, tyX5_ok, nmX5, by decide, by decide, rfl, wd_7_2, rfl, rfl, rfl⟩
theorem fl_RX5_49 : aFl RX5 49 5 5 true (.object "OddPayments$Ledger") := ⟨RX5, TX5, 13, tyX5, rfl, wI_X5, tyX5_ok, nmX5, by decide, by decide, rfl, wd_7_3, rfl, rfl, rfl⟩
theorem fl_RX5_53 : aFl RX5 53 5 6 true (.object "OddPayments$Judge") := ⟨RX5, TX5, 13, tyX5, rfl, wI_X5, tyX5_ok, nmX5, by decide, by decide, rfl, wd_7_4, rfl, rfl, rfl⟩
theorem fl_RX5_74 : aFl RX5 74 3 2 false .int := ⟨RX3, TX3, 4, tyX3, rfl, wI_X3, tyX3_ok, nmX3, by decide, by decide, rfl, wd_40_22, rfl, rfl, rfl⟩
theorem fl_RX5_83 : aFl RX5 83 4 7 false .int := ⟨RX4, TX4, 8, tyX4, rfl, wI_X4, tyX4_ok, nmX4, by decide, by decide, rfl, wd_40_23, rfl, rfl, rfl⟩
theorem fl_RX5_95 : aFl RX5 95 4 4 true .int := ⟨RX4, TX4, 8, tyX4, rfl, wI_X4, tyX4_ok, nmX4, by decide, by decide, rfl, wd_41_1, rfl, rfl, rfl⟩
theorem fl_RX5_108 : aFl RX5 108 4 0 true .int := ⟨RX4, TX4, 8, tyX4, rfl, wI_X4, tyX4_ok, nmX4, by decide, by decide, rfl, wd_43_16, rfl, rfl, rfl⟩
theorem fl_RX5_117 : aFl RX5 117 2 0 false (.object "OddPayments$RuleBook") := ⟨RX2, TX2, 8, tyX2, rfl, wI_X2, tyX2_ok, nmX2, by decide, by decide, rfl, wd_43_11, rfl, rfl, rfl⟩
theorem fl_RX5_137 : aFl RX5 137 8 1 false .int := ⟨RX8, TX8, 7, tyX8, rfl, wI_X8, tyX8_ok, nmX8, by decide, by decide, rfl, wd_43_17, rfl, rfl, rfl⟩
theorem fl_RX6_9 : aFl RX6 9 6 0 false .int := ⟨RX6, TX6, 7, tyX6, rfl, wI_X6, tyX6_ok, nmX6, by decide, by decide, rfl, wd_4_2, rfl, rfl, rfl⟩
theorem fl_RX6_15 : aFl RX6 15 6 1 false .int := ⟨RX6, TX6, 7, tyX6, rfl, wI_X6, tyX6_ok, nmX6, by decide, by decide, rfl, wd_4_3, rfl, rfl, rfl⟩
theorem fl_RX6_18 : aFl RX6 18 6 3 false (.object "OddPayments$RuleBook") := ⟨RX6, TX6, 7, tyX6, rfl, wI_X6, tyX6_ok, nmX6, by decide, by decide, rfl, wd_4_4, rfl, rfl, rfl⟩
theorem fl_RX6_22 : aFl RX6 22 6 4 false .int := ⟨RX6, TX6, 7, tyX6, rfl, wI_X6, tyX6_ok, nmX6, by decide, by decide, rfl, wd_4_5, rfl, rfl, rfl⟩
theorem fl_RX6_27 : aFl RX6 27 6 5 false .int := ⟨RX6, TX6, 7, tyX6, rfl, wI_X6, tyX6_ok, nmX6, by decide, by decide, rfl, wd_4_6, rfl, rfl, rfl⟩
theorem fl_RX6_30 : aFl RX6 30 6 6 false .int := ⟨RX6, TX6, 7, tyX6, rfl, wI_X6, tyX6_ok, nmX6, by decide, by decide, rfl, wd_4_7, rfl, rfl, rfl⟩
theorem fl_RX6_33 : aFl RX6 33 6 2 true (.object "OddPayments$Tape") := ⟨RX6, TX6, 7, tyX6, rfl, wI_X6, tyX6_ok, nmX6, by decide, by decide, rfl, wd_4_8, rfl, rfl, rfl⟩
theorem fl_RX6_53 : aFl RX6 53 10 0 true (.array .int) := ⟨RX10, TX10, 6, tyX10, rfl, wI_X10, tyX10_ok, nmX10, by decide, by decide, rfl, wd_27_7, rfl, rfl, rfl⟩
theorem fl_RX6_57 : aFl RX6 57 10 1 true (.array .int) := ⟨RX10, TX10, 6, tyX10, rfl, wI_X10, tyX10_ok, nmX10, by decide, by decide, rfl, wd_27_8, rfl, rfl, rfl⟩
theorem fl_RX6_85 : aFl RX6 85 8 0 true (.array .int) := ⟨RX8, TX8, 7, tyX8, rfl, wI_X8, tyX8_ok, nmX8, by decide, by decide, rfl, wd_27_18, rfl, rfl, rfl⟩
theorem fl_RX6_91 : aFl RX6 91 8 1 false .int := ⟨RX8, TX8, 7, tyX8, rfl, wI_X8, tyX8_ok, nmX8, by decide, by decide, rfl, wd_28_20, rfl, rfl, rfl⟩
theorem fl_RX6_105 : aFl RX6 105 10 2 true (.array .int) := ⟨RX10, TX10, 6, tyX10, rfl, wI_X10, tyX10_ok, nmX10, by decide, by decide, rfl, wd_28_7, rfl, rfl, rfl⟩
theorem fl_RX7_11 : aFl RX7 11 7 0 true (.array .int) := ⟨RX7, TX7, 7, tyX7, rfl, wI_X7, tyX7_ok, nmX7, by decide, by decide, rfl, wd_5_21, rfl, rfl, rfl⟩
theorem fl_RX7_15 : aFl RX7 15 7 1 false .int := ⟨RX7, TX7, 7, tyX7, rfl, wI_X7, tyX7_ok, nmX7, by decide, by decide, rfl, wd_5_22, rfl, rfl, rfl⟩
theorem fl_RX7_19 : aFl RX7 19 7 2 true (.array .int) := ⟨RX7, TX7, 7, tyX7, rfl, wI_X7, tyX7_ok, nmX7, by decide, by decide, rfl, wd_5_23, rfl, rfl, rfl⟩
theorem fl_RX7_22 : aFl RX7 22 7 3 false .int := ⟨RX7, TX7, 7, tyX7, rfl, wI_X7, tyX7_ok, nmX7, by decide, by decide, rfl, wd_6_0, rfl, rfl, rfl⟩
theorem fl_RX7_25 : aFl RX7 25 7 4 false .int := ⟨RX7, TX7, 7, tyX7, rfl, wI_X7, tyX7_ok, nmX7, by decide, by decide, rfl, wd_6_1, rfl, rfl, rfl⟩
theorem fl_RX7_28 : aFl RX7 28 7 5 false .int := ⟨RX7, TX7, 7, tyX7, rfl, wI_X7, tyX7_ok, nmX7, by decide, by decide, rfl, wd_6_2, rfl, rfl, rfl⟩
theorem fl_RX7_31 : aFl RX7 31 7 6 false .int := ⟨RX7, TX7, 7, tyX7, rfl, wI_X7, tyX7_ok, nmX7, by decide, by decide, rfl, wd_6_3, rfl, rfl, rfl⟩
theorem fl_RX7_38 : aFl RX7 38 3 2 false .int := ⟨RX3, TX3, 4, tyX3, rfl, wI_X3, tyX3_ok, nmX3, by decide, by decide, rfl, wd_18_23, rfl, rfl, rfl⟩
theorem fl_RX7_47 : aFl RX7 47 4 6 true .int := ⟨RX4, TX4, 8, tyX4, rfl, wI_X4, tyX4_ok, nmX4, by decide, by decide, rfl, wd_19_0, rfl, rfl, rfl⟩
theorem fl_RX7_56 : aFl RX7 56 4 1 true .int := ⟨RX4, TX4, 8, tyX4, rfl, wI_X4, tyX4_ok, nmX4, by decide, by decide, rfl, wd_19_1, rfl, rfl, rfl⟩
theorem fl_RX7_69 : aFl RX7 69 4 3 true .int := ⟨RX4, TX4, 8, tyX4, rfl, wI_X4, tyX4_ok, nmX4, by decide, by decide, rfl, wd_19_2, rfl, rfl, rfl⟩
theorem fl_RX7_72 : aFl RX7 72 3 3 false .int := ⟨RX3, TX3, 4, tyX3, rfl, wI_X3, tyX3_ok, nmX3, by decide, by decide, rfl, wd_19_3, rfl, rfl, rfl⟩
theorem fl_RX7_78 : aFl RX7 78 4 4 true .int := ⟨RX4, TX4, 8, tyX4, rfl, wI_X4, tyX4_ok, nmX4, by decide, by decide, rfl, wd_19_4, rfl, rfl, rfl⟩
theorem fl_RX7_91 : aFl RX7 91 4 5 true .int := ⟨RX4, TX4, 8, tyX4, rfl, wI_X4, tyX4_ok, nmX4, by decide, by decide, rfl, wd_19_9, rfl, rfl, rfl⟩
theorem fl_RX7_94 : aFl RX7 94 8 0 true (.array .int) := ⟨RX8, TX8, 7, tyX8, rfl, wI_X8, tyX8_ok, nmX8, by decide, by decide, rfl, wd_19_10, rfl, rfl, rfl⟩
theorem fl_RX7_99 : aFl RX7 99 4 2 true .int := ⟨RX4, TX4, 8, tyX4, rfl, wI_X4, tyX4_ok, nmX4, by decide, by decide, rfl, wd_19_17, rfl, rfl, rfl⟩
theorem fl_RX8_11 : aFl RX8 11 8 0 true (.array .int) := ⟨RX8, TX8, 7, tyX8, rfl, wI_X8, tyX8_ok, nmX8, by decide, by decide, rfl, wd_5_7, rfl, rfl, rfl⟩
theorem fl_RX8_15 : aFl RX8 15 8 1 false .int := ⟨RX8, TX8, 7, tyX8, rfl, wI_X8, tyX8_ok, nmX8, by decide, by decide, rfl, wd_5_8, rfl, rfl, rfl⟩
theorem fl_RX8_19 : aFl RX8 19 8 2 true (.array .int) := ⟨RX8, TX8, 7, tyX8, rfl, wI_X8, tyX8_ok, nmX8, by decide, by decide, rfl, wd_5_9, rfl, rfl, rfl⟩
theorem fl_RX8_22 : aFl RX8 22 8 3 true (.array .int) := ⟨RX8, TX8, 7, tyX8, rfl, wI_X8, tyX8_ok, nmX8, by decide, by decide, rfl, wd_5_10, rfl, rfl, rfl⟩
theorem fl_RX8_25 : aFl RX8 25 8 4 true (.array .int) := ⟨RX8, TX8, 7, tyX8, rfl, wI_X8, tyX8_ok, nmX8, by decide, by decide, rfl, wd_5_11, rfl, rfl, rfl⟩
theorem fl_RX8_28 : aFl RX8 28 8 5 true (.array .int) := ⟨RX8, TX8, 7, tyX8, rfl, wI_X8, tyX8_ok, nmX8, by decide, by decide, rfl, wd_5_12, rfl, rfl, rfl⟩
theorem fl_RX8_31 : aFl RX8 31 8 6 true (.array .int) := ⟨RX8, TX8, 7, tyX8, rfl, wI_X8, tyX8_ok, nmX8, by decide, by decide, rfl, wd_5_13, rfl, rfl, rfl⟩
theorem fl_RX9_9 : aFl RX9 9 9 0 true (.array .int) := ⟨RX9, TX9, 4, tyX9, rfl, wI_X9, tyX9_ok, nmX9, by decide, by decide, rfl, wd_8_0, rfl, rfl, rfl⟩
theorem fl_RX9_15 : aFl RX9 15 9 1 false .boolean := ⟨RX9, TX9, 4, tyX9, rfl, wI_X9, tyX9_ok, nmX9, by decide, by decide, rfl, wd_8_1, rfl, rfl, rfl⟩
theorem fl_RX9_19 : aFl RX9 19 9 2 false .int := ⟨RX9, TX9, 4, tyX9, rfl, wI_X9, tyX9_ok, nmX9, by decide, by decide, rfl, wd_8_2, rfl, rfl, rfl⟩
theorem fl_RX9_23 : aFl RX9 23 9 3 false .int := ⟨RX9, TX9, 4, tyX9, rfl, wI_X9, tyX9_ok, nmX9, by decide, by decide, rfl, wd_8_3, rfl, rfl, rfl⟩
theorem cl_RX11_146 : aCl true RX11 146 4 8 := ⟨RX4, TX4, tyX4, rfl, wI_X4, tyX4_ok, by decide, rfl, wd_13_16, wd_13_17, wd_13_18, by decide +kernel⟩
