/-! BYTES: the shared words of both classes. A tape is its size n and its bytes b, with b k = -1 from n on -/
def isWh (c : Int32) : Bool := decide (c = 0) || decide (c = 9) || decide (c = 10) || decide (c = 12) || decide (c = 13) || decide (c = 32)
def isLE (c : Int32) : Bool := decide (c = 10) || decide (c = 13)
def isFig (c : Int32) : Bool := decide (48 ≤ c) && decide (c ≤ 57)
def isSg (c : Int32) : Bool := decide (c = 40) || decide (c = 41) || decide (c = 60) || decide (c = 62) || decide (c = 91) || decide (c = 93) || decide (c = 123) || decide (c = 125) || decide (c = 47) || decide (c = 37)
def isReg (c : Int32) : Bool := decide (33 ≤ c) && decide (c ≤ 126) && !isSg c
def hexV (c : Int32) : Int32 := if isFig c = true then c - 48 else if 97 ≤ c ∧ c ≤ 102 then c - 97 + 10 else if 65 ≤ c ∧ c ≤ 70 then c - 65 + 10 else -1
/-- the component's tape -/
def tpC (C : wd_C) (n : Nat) (b : Nat → Int32) : Prop := C.1 0 = nI n ∧ n ≤ 1600 ∧ (∀ k, k < n → C.2.1 0 k &&& 255 = b k) ∧ ∀ k, n ≤ k → b k = -1
