/-! CHECKS BY CHUNKS -/
theorem chunk_ok {cc : ByteArray} {pcs : List Nat} {o : Nat} {init : Bool} {ret : Option FieldType} {K : List xA} {i ix : Nat} {ai : xA} (h : xokL cc pcs o init ret i ((K.drop i).take 32) = true) (h1 : i ≤ ix) (h2 : ix < i + 32) (hk : K[ix]? = some ai) : xrel cc pcs o init ret (pcs.getD ix 0) (pcs.getD (ix + 1) 0) ai = true := by
  have hk' : ((K.drop i).take 32)[ix - i]? = some ai := by
    rw [List.getElem?_take_of_lt (by omega), List.getElem?_drop, show i + (ix - i) = ix by omega]
    exact hk
  have := xokL_spec h hk'
  rwa [show i + (ix - i) = ix by omega] at this
