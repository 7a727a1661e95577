/-! THE LAYOUT after the constructors (found by emu.py; proved of the constructors later) -/
def S0 : List (Nat × Int32) := [(21, 0), (20, 0), (19, 0), (2, 1000), (13, 0), (12, 0), (1, 7), (0, 7), (0, 7), (0, 7), (1, 5), (0, 5), (0, 5), (0, 5), (14, 0), (0, 1000), (0, 32), (12, 0), (1, 7), (0, 7), (0, 7), (0, 7), (1, 5), (0, 5), (0, 5), (0, 5), (14, 0), (0, 1000), (0, 32), (11, 0), (0, 40), (0, 40), (0, 40), (11, 0), (0, 40), (0, 40), (0, 40), (16, 0), (0, 7), (0, 7), (0, 7), (0, 5), (0, 5), (0, 7), (15, 0), (4, 16), (4, 4), (5, 4), (3, 4), (16, 0), (0, 7), (0, 7), (0, 7), (0, 5), (0, 5), (0, 7), (16, 0), (0, 7), (0, 7), (0, 7), (0, 5), (0, 5), (0, 7), (16, 0), (0, 7), (0, 7), (0, 7), (0, 5), (0, 5), (0, 7), (16, 0), (0, 7), (0, 7), (0, 7), (0, 5), (0, 5), (0, 7), (16, 0), (0, 7), (0, 7), (0, 7), (0, 5), (0, 5), (0, 7), (16, 0), (0, 7), (0, 7), (0, 7), (0, 5), (0, 5), (0, 7), (16, 0), (0, 7), (0, 7), (0, 7), (0, 5), (0, 5), (0, 7), (16, 0), (0, 7), (0, 7), (0, 7), (0, 5), (0, 5), (0, 7), (16, 0), (0, 7), (0, 7), (0, 7), (0, 5), (0, 5), (0, 7), (16, 0), (0, 7), (0, 7), (0, 7), (0, 5), (0, 5), (0, 7), (16, 0), (0, 7), (0, 7), (0, 7), (0, 5), (0, 5), (0, 7), (16, 0), (0, 7), (0, 7), (0, 7), (0, 5), (0, 5), (0, 7), (16, 0), (0, 7), (0, 7), (0, 7), (0, 5), (0, 5), (0, 7), (16, 0), (0, 7), (0, 7), (0, 7), (0, 5), (0, 5), (0, 7), (16, 0), (0, 7), (0, 7), (0, 7), (0, 5), (0, 5), (0, 7), (16, 0), (0, 7), (0, 7), (0, 7), (0, 5), (0, 5), (0, 7), (16, 0), (0, 7), (0, 7), (0, 7), (0, 5), (0, 5), (0, 7), (17, 0), (0, 8), (0, 8), (3, 8), (16, 0), (0, 7), (0, 7), (0, 7), (0, 5), (0, 5), (0, 7), (17, 0), (0, 8), (0, 8), (3, 8), (16, 0), (0, 7), (0, 7), (0, 7), (0, 5), (0, 5), (0, 7), (17, 0), (0, 8), (0, 8), (3, 8), (16, 0), (0, 7), (0, 7), (0, 7), (0, 5), (0, 5), (0, 7), (17, 0), (0, 8), (0, 8), (3, 8), (17, 0), (0, 8), (0, 8), (3, 8), (10, 0), (16, 0), (0, 7), (0, 7), (0, 7), (0, 5), (0, 5), (0, 7), (6, 5), (0, 7), (0, 7), (0, 7), (0, 7), (0, 7), (18, 0), (0, 5), (0, 5), (22, 0), (0, 1000), (0, 1002), (0, 1002), (1, 1002), (1, 24), (0, 80), (0, 2200), (0, 2200), (1, 12), (1, 12), (0, 12), (0, 12), (0, 250), (0, 4), (0, 1100), (0, 1150), (3, 4), (0, 7), (0, 7), (0, 5), (0, 5), (0, 35), (1, 1)]
/-- a scene's place -/
def isSc (b : Nat) : Bool := b == 37 || b == 210 || (decide (49 ≤ b) && decide (b ≤ 154) && (b - 49) % 7 == 0) || (decide (161 ≤ b) && decide (b ≤ 194) && (b - 161) % 11 == 0)
def P0 (h1 h2 e1 e2 : Nat) (c k : Nat) : Option Nat :=
  if c = 226 then ([none, some 227, none, none, some 228, some 229, some 230, none, none, some 231, some 232, some 233, some 234, none, some 235, some 236, some 237, some 238, none, none, none, some 239, some 240, some 241, some 242, none, some 243, some 244, some 245, some 246, some 247, none, none, some 248, none] : List (Option Nat)).getD k none
  else if c = 0 then ([some 1, some 4, some h1, some h2, some e1, some e2, some 37, some 44, some 205, some 209, some 223] : List (Option Nat)).getD k none
  else if isSc c then (if k < 5 then some (c + 1 + k) else if k = 6 then some (c + 6) else none)
  else if c = 5 ∨ c = 17 then (if k < 9 then some (c + 1 + k) else none)
  else if c = 14 ∨ c = 26 then (if k < 2 then some (c + 1 + k) else none)
  else if c = 29 ∨ c = 33 ∨ c = 205 ∨ c = 168 ∨ c = 179 ∨ c = 190 ∨ c = 201 then (if k < 3 then some (c + 1 + k) else none)
  else if c = 1 then ([some 2, none, none, none, none, none, none] : List (Option Nat)).getD k none
  else if c = 2 then ([some 3, none] : List (Option Nat)).getD k none
  else if c = 44 then ([some 45, some 46, some 47, some 48, none, none] : List (Option Nat)).getD k none
  else if c = 209 then ([some 210, some 217] : List (Option Nat)).getD k none
  else if c = 223 then ([some 224, some 225, none] : List (Option Nat)).getD k none
  else none
def Q0 (c : Nat) (i : Int32) : Option Nat :=
  if c = 45 ∧ 0 ≤ i ∧ i < 16 then some (49 + 7 * i.toNatClampNeg)
  else if c = 46 ∧ 0 ≤ i ∧ i < 4 then some (161 + 11 * i.toNatClampNeg)
  else if c = 47 ∧ 0 ≤ i ∧ i < 4 then some (168 + 11 * i.toNatClampNeg)
  else if c = 217 ∧ 0 ≤ i ∧ i < 5 then some (218 + i.toNatClampNeg)
  else none
