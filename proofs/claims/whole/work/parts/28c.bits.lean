def bc1 (p : Int32) : Int32 := p - (((p.toUInt32 >>> ((1 : Int32).toUInt32 &&& Int32.toUInt32 31)).toInt32) &&& 1431655765)
def bc2 (p : Int32) : Int32 := (p &&& 858993459) + (((p.toUInt32 >>> ((2 : Int32).toUInt32 &&& Int32.toUInt32 31)).toInt32) &&& 858993459)
def bc3 (p : Int32) : Int32 := (p + ((p.toUInt32 >>> ((4 : Int32).toUInt32 &&& Int32.toUInt32 31)).toInt32)) &&& 252645135
def bc4 (p : Int32) : Int32 := p + ((p.toUInt32 >>> ((8 : Int32).toUInt32 &&& Int32.toUInt32 31)).toInt32)
def bc5 (p : Int32) : Int32 := p + ((p.toUInt32 >>> ((16 : Int32).toUInt32 &&& Int32.toUInt32 31)).toInt32)
theorem fSum_nI {h : Nat → Nat} : ∀ n, fSum (fun k => nI (h k)) n = nI ((List.range n).foldl (fun a k => a + h k) 0)
  | 0 => rfl
  | n + 1 => by
    rw [List.range_succ, List.foldl_append]
    show fSum (fun k => nI (h k)) n + nI (h n) = _
    rw [fSum_nI n, nI_add]
    rfl
theorem xBits_nI {x : Nat} (hx : x < 2147483648) : xBits (nI x) = nI (pcN x 20) := by
  have key : ∀ n, n ≤ 31 → fSum (fun k => (nI x >>> (nI k &&& 31)) &&& 1) n = nI (pcN x n) := by
    intro n
    induction n with
    | zero => intro _; rfl
    | succ n ih =>
      intro hn
      show fSum (fun k => (nI x >>> (nI k &&& 31)) &&& 1) n + ((nI x >>> (nI n &&& 31)) &&& 1) = _
      rw [ih (by omega), nb_get hx (by omega), nI_add]
      rfl
  exact key 20 (by omega)
theorem s_bitCount {x : Nat} (hx : x < 1048576) (σ : aSt) : f_J6_bitCount_0f7a4 (nI x) σ = some (xBits (nI x), σ) := by
  have h0 : f_J6_bitCount_0f7a4 (nI x) σ = some ((bc5 (bc4 (bc3 (bc2 (bc1 (nI x)))))) &&& 63, σ) := rfl
  obtain ⟨a, A, B, C, D, E, hF⟩ := bc_nat hx rfl rfl rfl rfl rfl
  rw [h0, xBits_nI (by omega)]
  congr 2
  have s1 : bc1 (nI x) = nI (x - ((x / 2) &&& 1431655765)) := by
    unfold bc1
    rw [pk_ushrN (by omega) 1 1 (by decide), show (1431655765 : Int32) = nI 1431655765 from rfl, nb_and]
    exact pk_sub a
  rw [s1]
  generalize x - ((x / 2) &&& 1431655765) = x1 at A B C D E hF ⊢
  have s2 : bc2 (nI x1) = nI ((x1 &&& 858993459) + ((x1 / 4) &&& 858993459)) := by
    unfold bc2
    rw [pk_ushrN (by omega) 2 2 (by decide), show (858993459 : Int32) = nI 858993459 from rfl, nb_and, nb_and, nI_add]
  rw [s2]
  generalize (x1 &&& 858993459) + ((x1 / 4) &&& 858993459) = x2 at B C D E hF ⊢
  have s3 : bc3 (nI x2) = nI ((x2 + x2 / 16) &&& 252645135) := by
    unfold bc3
    rw [pk_ushrN (by omega) 4 4 (by decide), show (252645135 : Int32) = nI 252645135 from rfl, nI_add, nb_and]
  rw [s3]
  generalize (x2 + x2 / 16) &&& 252645135 = x3 at C D E hF ⊢
  have s4 : bc4 (nI x3) = nI (x3 + x3 / 256) := by
    unfold bc4
    rw [pk_ushrN (by omega) 8 8 (by decide), nI_add]
  rw [s4]
  generalize x3 + x3 / 256 = x4 at D E hF ⊢
  have s5 : bc5 (nI x4) = nI (x4 + x4 / 65536) := by
    unfold bc5
    rw [pk_ushrN (by omega) 16 16 (by decide), nI_add]
  rw [s5, pk_andN (by omega) (m := 63) 6 (by decide)]
  exact congrArg nI hF
