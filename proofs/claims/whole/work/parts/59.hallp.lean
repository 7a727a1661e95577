/-! WHAT BOTH SIDES READ: a hall's lines, an evening's -/
/-- names with what they name: a seat, or 20 and a person -/
abbrev ND : Type := List (List Int32 × Nat)
/-- the draft: the hall (near still empty), the names, whether lasts, wears have been told -/
abbrev DV : Type := HV × ND × Bool × Bool
def nmF : ND → List Int32 → Int32
  | [], _ => -1
  | (t, v) :: L, x => if t = x then nI v else nmF L x
def anyW (T : List Int32) (j : Nat) : Nat → Bool
  | 0 => false
  | k + 1 => isW T j k || anyW T j k
def isNm (T : List Int32) (j : Nat) : Bool := decide ((tokAt T j).1 = 1) && !anyW T j 20
def txA (T : List Int32) (j : Nat) : List Int32 := (tokAt T j).2.2
def bad (T : List Int32) (x : Int32) (j : Nat) : Int32 := x + 16 * plT T j
def nuE (T : List Int32) (lo hi : Int32) (j : Nat) : Int32 := if isU T j then (if numA T j < lo ∨ hi < numA T j then bad T 4 j else 0) else bad T 1 j
def afE (T : List Int32) (x : Nat) (lo hi : Int32) (j : Nat) : Int32 := if isW T j x then nuE T lo hi (j + 1) else bad T 1 j
def toV (T : List Int32) (L : ND) (fr : Int32) (j : Nat) : Int32 := nmF L (txA T j) - fr
def toE (T : List Int32) (L : ND) (fr but : Int32) (j : Nat) : Int32 := if isNm T j then (if 0 ≤ toV T L fr j ∧ toV T L fr j ≤ 6 then (if tb but (toV T L fr j) then bad T 3 j else 0) else bad T 2 j) else bad T 1 j
def nnE (T : List Int32) (L : ND) (j : Nat) : Int32 := if isNm T j then (if 0 ≤ nmF L (txA T j) then bad T 3 j else 0) else bad T 1 j
/-- the word's number among some, or -1 -/
def onK (T : List Int32) (j fr : Nat) : Nat → Int32
  | 0 => -1
  | k + 1 => if isW T j (fr + k) then nI k else onK T j fr k
def onE (T : List Int32) (fr mn j : Nat) : Int32 := if onK T j fr mn < 0 then bad T 1 j else 0
def cel (h : HV) (a : Nat) (i x : Int32) : HV := (h.1, h.2.1, h.2.2.1, (fun b k => if b = a ∧ k = i then x else h.2.2.2.1 b k), h.2.2.2.2)
def hadQ (h : HV) (r a : Int32) : Nat → Bool
  | 0 => false
  | k + 1 => hadQ h r a k || (decide (hRow h (nI k) = r) && decide (hAt h (nI k) = a))
def seatF (T : List Int32) (j : Nat) (D : DV) : Int32 :=
  if hN D.1 = 7 then bad T 5 j
  else if nnE T D.2.1 (j + 1) ≠ 0 then nnE T D.2.1 (j + 1)
  else if afE T 1 0 4 (j + 2) ≠ 0 then afE T 1 0 4 (j + 2)
  else if afE T 2 0 9 (j + 4) ≠ 0 then afE T 2 0 9 (j + 4)
  else if hadQ D.1 (numA T (j + 3)) (numA T (j + 5)) (hN D.1) then bad T 3 (j + 5) else 0
def seatD (T : List Int32) (j : Nat) (D : DV) : DV :=
  (((hN D.1 + 1, (cel (cel D.1 0 (nI (hN D.1)) (numA T (j + 3))) 5 (nI (hN D.1)) (numA T (j + 5))).2) : HV), D.2.1 ++ [(txA T (j + 1), hN D.1)], D.2.2)
def persF (T : List Int32) (j : Nat) (D : DV) : Int32 :=
  if hP D.1 = 5 then bad T 5 j
  else if nnE T D.2.1 (j + 1) ≠ 0 then nnE T D.2.1 (j + 1)
  else if onE T 13 4 (j + 2) ≠ 0 then onE T 13 4 (j + 2)
  else afE T 4 0 9 (j + 3)
def persD (T : List Int32) (j : Nat) (D : DV) : DV :=
  ((hN D.1, hP D.1 + 1, (cel (cel D.1 2 (nI (hP D.1)) (onK T (j + 2) 13 4)) 3 (nI (hP D.1)) (numA T (j + 4))).2.2), D.2.1 ++ [(txA T (j + 1), 20 + hP D.1)], D.2.2)
def foeB (T : List Int32) (j : Nat) (D : DV) : Int32 := hFoes D.1 (toV T D.2.1 20 (j + 1)) ||| (1 <<< (toV T D.2.1 20 (j + 1) &&& 31))
def foeF (T : List Int32) (j : Nat) (D : DV) : Int32 := if toE T D.2.1 20 0 (j + 1) ≠ 0 then toE T D.2.1 20 0 (j + 1) else toE T D.2.1 20 (foeB T j D) (j + 2)
def foeD1 (h : HV) (a b : Int32) : HV := cel h 4 a (hFoes h a ||| (1 <<< (b &&& 31)))
def foeD (T : List Int32) (j : Nat) (D : DV) : DV :=
  (foeD1 (foeD1 D.1 (toV T D.2.1 20 (j + 1)) (toV T D.2.1 20 (j + 2))) (toV T D.2.1 20 (j + 2)) (toV T D.2.1 20 (j + 1)), D.2)
def lastF (T : List Int32) (j : Nat) (D : DV) : Int32 := if D.2.2.1 then bad T 3 j else nuE T 1 30 (j + 1)
def lastD (T : List Int32) (j : Nat) (D : DV) : DV := ((D.1.1, D.1.2.1, numA T (j + 1), D.1.2.2.2), D.2.1, true, D.2.2.2)
def lawA (T : List Int32) (j : Nat) : PS := wholeP T (partP T 5) (0, j, [])
def wearF (T : List Int32) (j : Nat) (D : DV) : Int32 := if D.2.2.2 then bad T 3 j else (lawA T (j + 1)).1
def wearD (T : List Int32) (j : Nat) (D : DV) : DV := ((D.1.1, D.1.2.1, D.1.2.2.1, D.1.2.2.2.1, (lawA T (j + 1)).2.2), D.2.1, D.2.2.1, true)
/-- the fault, the index behind it, the draft -/
def lineP (T : List Int32) (j : Nat) (D : DV) : Int32 × Nat × DV :=
  if isW T j 0 then (seatF T j D, j + 6, seatD T j D)
  else if isW T j 3 then (persF T j D, j + 5, persD T j D)
  else if isW T j 5 then (foeF T j D, j + 3, foeD T j D)
  else if isW T j 7 then (wearF T j D, (lawA T (j + 1)).2.1, wearD T j D)
  else if isW T j 6 then (lastF T j D, j + 2, lastD T j D)
  else (bad T 1 j, j, D)
def linesP (T : List Int32) : Nat → Nat → DV → Int32 × Nat × DV
  | 0, j, D => (0, j, D)
  | m + 1, j, D => if (tokAt T j).1 = 0 then (0, j, D) else
    if (lineP T j D).1 ≠ 0 then lineP T j D
    else if isG T (lineP T j D).2.1 59 then linesP T m ((lineP T j D).2.1 + 1) (lineP T j D).2.2
    else (bad T 1 (lineP T j D).2.1, (lineP T j D).2)
def D0 : DV := ((0, 0, 6, (fun _ _ => 0), []), [], false, false)
def hallP (T : List Int32) : Int32 × Nat × DV := linesP T 1000 0 D0
/-- the hall read: who is near is filled in -/
def nearH (h : HV) : HV := (h.1, h.2.1, h.2.2.1, (fun b k => if b = 1 then nearR (hRow h) (hAt h) (hN h) k else h.2.2.2.1 b k), h.2.2.2.2)
/-- an evening's lines: verb, person, seat (0 where there is none) -/
abbrev LN : Type := List (Int32 × Int32 × Int32)
def evP1 (T : List Int32) (L : ND) (j : Nat) : Int32 := toE T L 20 0 (j + 1)
def evF (T : List Int32) (L : ND) (n j : Nat) : Int32 :=
  if onK T j 8 5 < 0 then bad T 1 j
  else if n = 40 then bad T 5 j
  else if onK T j 8 5 = 4 then 0
  else if toE T L 20 0 (j + 1) ≠ 0 then toE T L 20 0 (j + 1)
  else if onK T j 8 5 = 2 then 0
  else toE T L 0 0 (j + 2)
def evJ (T : List Int32) (j : Nat) : Nat := if onK T j 8 5 = 4 then j + 1 else if onK T j 8 5 = 2 then j + 2 else j + 3
def evL (T : List Int32) (L : ND) (j : Nat) : Int32 × Int32 × Int32 := (onK T j 8 5, if onK T j 8 5 = 4 then 0 else toV T L 20 (j + 1), if onK T j 8 5 = 4 ∨ onK T j 8 5 = 2 then 0 else toV T L 0 (j + 2))
def evsP (T : List Int32) (L : ND) : Nat → Nat → LN → Int32 × Nat × LN
  | 0, j, E => (0, j, E)
  | m + 1, j, E => if (tokAt T j).1 = 0 then (0, j, E) else
    if evF T L E.length j ≠ 0 then (evF T L E.length j, j, E)
    else if isG T (evJ T j) 59 then evsP T L m (evJ T j + 1) (E ++ [evL T L j])
    else (bad T 1 (evJ T j), j, E)
def evenP (T : List Int32) (L : ND) : Int32 × Nat × LN := evsP T L 1000 0 []
