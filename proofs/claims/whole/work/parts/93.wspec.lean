/-! WRITING: the bytes that both sides put, and longs as natural numbers -/
theorem lN_lt62 {a b : Nat} (ha : a < 2 ^ 62) (hb : b < 2 ^ 62) : lN a < lN b ↔ a < b := by
  rw [Int64.lt_iff_toInt_lt, lN_toInt63 (by omega), lN_toInt63 (by omega)]
  omega
theorem lN_eq62 {a b : Nat} (ha : a < 2 ^ 62) (hb : b < 2 ^ 62) : lN a = lN b ↔ a = b := by
  constructor
  · intro h
    have := congrArg Int64.toInt h
    rw [lN_toInt63 (by omega), lN_toInt63 (by omega)] at this
    omega
  · intro h; rw [h]
theorem cN_lt {a b : Nat} (ha : a < 2 ^ 62) (hb : b < 2 ^ 62) : lg_cmp (lN a) (lN b) < 0 ↔ a < b := cmp_lt0.trans (lN_lt62 ha hb)
theorem cN_gt {a b : Nat} (ha : a < 2 ^ 62) (hb : b < 2 ^ 62) : 0 < lg_cmp (lN a) (lN b) ↔ b < a := cmp_gt0.trans (lN_lt62 hb ha)
theorem cN_le {a b : Nat} (ha : a < 2 ^ 62) (hb : b < 2 ^ 62) : lg_cmp (lN a) (lN b) ≤ 0 ↔ a ≤ b := by
  rw [← Int32.not_lt, cN_gt ha hb]; omega
theorem cN_ge {a b : Nat} (ha : a < 2 ^ 62) (hb : b < 2 ^ 62) : 0 ≤ lg_cmp (lN a) (lN b) ↔ b ≤ a := by
  rw [← Int32.not_lt, cN_lt ha hb]; omega
theorem cN_eq {a b : Nat} (ha : a < 2 ^ 62) (hb : b < 2 ^ 62) : lg_cmp (lN a) (lN b) = 0 ↔ a = b := cmp_0.trans (lN_eq62 ha hb)
theorem lN_rem {a b : Nat} (ha : a < 2 ^ 62) (hb : b < 2 ^ 62) : lN a - lN a / lN b * lN b = lN (a % b) := by
  rw [lN_div ha hb, lN_mul, lN_sub' (Nat.div_mul_le_self a b), show a - a / b * b = a % b by have := Nat.div_add_mod a b; rw [Nat.mul_comm] at this; omega]
/-- the figures of n, from unit 10 ^ k on down -/
def fgF (n : Nat) : Nat → List Int32
  | 0 => [nI (48 + n % 10)]
  | k + 1 => nI (48 + n / 10 ^ (k + 1) % 10) :: fgF n k
def fgD (n : Nat) : Nat → List Int32
  | 0 => [nI (48 + n % 10)]
  | k + 1 => if 10 ^ (k + 1) ≤ n then nI (48 + n / 10 ^ (k + 1) % 10) :: fgD n k else fgD n k
theorem fgD_F {n : Nat} : ∀ {k : Nat}, 10 ^ k ≤ n → fgD n k = fgF n k
  | 0, _ => rfl
  | k + 1, h => by
    have h2 : 10 ^ k ≤ n := Nat.le_trans (Nat.pow_le_pow_right (by decide) (by omega)) h
    rw [fgD, if_pos h, fgF, fgD_F h2]
theorem fgD_lo {n j : Nat} (h : n < 10 ^ (j + 1)) : ∀ {k : Nat}, j ≤ k → fgD n k = fgD n j
  | 0, hk => by have : j = 0 := by omega
                rw [this]
  | k + 1, hk => by
    by_cases e : j = k + 1
    · rw [e]
    · have h2 : 10 ^ (j + 1) ≤ 10 ^ (k + 1) := Nat.pow_le_pow_right (by decide) (by omega)
      rw [fgD, if_neg (by omega), fgD_lo h (by omega)]
/-- a number's figures; at most nine -/
def fgL (n : Nat) : List Int32 := fgD n 8
theorem fgL_F {n j : Nat} (h1 : n < 10 ^ (j + 1)) (h2 : j = 0 ∨ 10 ^ j ≤ n) (hj : j ≤ 8) : fgL n = fgF n j := by
  rw [fgL, fgD_lo h1 hj]
  rcases h2 with e | e
  · subst e; rfl
  · exact fgD_F e
/-- the figures behind a point -/
def frL : Nat → Nat → List Int32
  | 0, _ => []
  | e + 1, r => if r = 0 then [] else nI (48 + r / 10 ^ e) :: frL e (r % 10 ^ e)
def ngL (z : Bool) : List Int32 := if z = true then [45] else []
def wnL (z : Bool) (n : Nat) : List Int32 := ngL z ++ fgL n
def rlL (z : Bool) (n : Nat) : List Int32 := ngL z ++ (if 1000000 ≤ n then fgL (n / 1000000) else []) ++ [46] ++ frL 6 (n % 1000000) ++ (if n = 0 then [48] else [])
def rfL (a g : Nat) : List Int32 := fgL a ++ [32] ++ fgL g ++ [32, 82]
def hxL (c : Int32) : List Int32 := [st_13.getD (c.toNatClampNeg / 16) 0, st_13.getD (c.toNatClampNeg % 16) 0]
def nwC (c : Int32) : List Int32 := if isReg c = true ∧ ¬ c = 35 then [c] else 35 :: hxL c
def nwL : List Int32 → List Int32
  | [] => []
  | c :: r => nwC c ++ nwL r
def swC (c : Int32) : List Int32 := if c = 92 ∨ c = 40 ∨ c = 41 ∨ c = 13 then [92, if c = 13 then 114 else c] else [c]
def swL : List Int32 → List Int32
  | [] => []
  | c :: r => swC c ++ swL r
/-- a number with its sign -/
def isN (x : Int64) : Bool := decide (x < 0)
def abN (x : Int64) : Nat := x.toInt.natAbs
/-- the bytes of a value without parts -/
def scL (V : VT) (v : Nat) : List Int32 :=
  if V.1 v = 1 then (if V.2.1 v = 1 then [116, 114, 117, 101] else [102, 97, 108, 115, 101])
  else if V.1 v = 2 then wnL (isN (V.2.1 v)) (abN (V.2.1 v))
  else if V.1 v = 3 then rlL (isN (V.2.1 v)) (abN (V.2.1 v))
  else if V.1 v = 4 then 47 :: nwL (V.2.2.2 v)
  else if V.1 v = 5 then 40 :: (swL (V.2.2.2 v) ++ [41])
  else if V.1 v = 8 then rfL (abN (V.2.1 v) % 1000000000) (abN (V.2.1 v) / 1000000000)
  else [110, 117, 108, 108]
def scS (k : Int32) : Nat := if k = 4 then 2 else if k = 5 then 3 else 1
/-- the blank that is due; rd: readable, bf: the sort before, s: the sort now -/
def gpB (rd bf s : Nat) : Bool := if rd = 0 then decide (s = 1) && (decide (bf = 1) || decide (bf = 2)) else !decide (bf = 0) && !decide (bf = 4) && !decide (s = 5)
def gpL (rd bf s : Nat) : List Int32 := if gpB rd bf s = true then [32] else []
/-- the state of writing: the sort before, and what is put so far -/
abbrev WS : Type := Nat × List Int32
def wPc (rd : Nat) (st : WS) (s : Nat) (t : List Int32) : WS := (s, st.2 ++ gpL rd st.1 s ++ t)
/-- a value's writing; the first number is how deep it may still go -/
def wVl (rd : Nat) (V : VT) : Nat → WS → Nat → WS
  | 0, st, _ => st
  | f + 1, st, v =>
    if V.1 v = 6 then wPc rd ((V.2.2.1 v).foldl (wVl rd V f) (wPc rd st 4 [91])) 5 [93]
    else if V.1 v = 7 then wPc rd ((V.2.2.1 v).foldl (wVl rd V f) (wPc rd st 4 [60, 60])) 5 [62, 62]
    else wPc rd st (scS (V.1 v)) (scL V v)
/-- Length's entry in a stream's dictionary -/
def wLn (rd : Nat) (st : WS) (m : Nat) : WS := wPc rd (wPc rd st 2 (47 :: st_8)) 1 (fgL m)
def wDk (rd : Nat) (V : VT) (f : Nat) (lk : Option Nat) (m : Nat) : WS → List Nat → WS
  | st, k :: x :: r => wDk rd V f lk m (if lk = some k then wLn rd st m else wVl rd V f (wVl rd V f st k) x) r
  | st, _ => st
/-- a stream's dictionary; m: its length -/
def wDc (rd : Nat) (V : VT) (f : Nat) (st : WS) (dc m : Nat) : WS :=
  let lk := vtSpl V dc st_8
  let s2 := wDk rd V f lk m (wPc rd st 4 [60, 60]) (V.2.2.1 dc)
  wPc rd (if lk = none then wLn rd s2 m else s2) 5 [62, 62]
/-- a value on its own -/
def wWh (rd : Nat) (V : VT) (st : WS) (v : Nat) : WS :=
  if V.1 v = 9 then
    (let s := wDc rd V 8 st ((V.2.2.1 v).headD 0) (V.2.2.2 v).length
    (s.1, s.2 ++ (10 :: st_7 ++ [10]) ++ V.2.2.2 v ++ (10 :: st_9)))
  else wVl rd V 9 st v
/-- the component's world while it writes -/
def pLn (kp : Nat) (A : Nat → Int32) (L : List Int32) (j : Nat) : Int32 := if kp = 1 ∧ j < 4000 ∧ j < L.length then vp_nar .byte (L.getD j 0).toInt8.toInt32 else A j
def wE (C : wd_C) (kp : Nat) (A : Nat → Int32) (s : WS) : wd_C := (upd (upd C.1 12 (nI s.2.length)) 15 (nI s.1), wd_u C.2.1 11 (pLn kp A s.2), C.2.2)
def qLn (A : Nat → Int32) (L : List Int32) (j : Nat) : Int32 := if j < 4000 ∧ j < L.length then L.getD j 0 else A j
def yE (Y : wd_Y) (A : Nat → Int32) (s : WS) : wd_Y := (upd (upd Y.1 14 (nI s.2.length)) 15 (nI s.1), wd_u Y.2.1 14 (qLn A s.2), Y.2.2)
theorem upd_c {f : Nat → Int32} {a b : Nat} {x y : Int32} (h : a ≠ b) : upd (upd f a x) b y = upd (upd f b y) a x := by
  funext j
  simp only [upd]
  split <;> split <;> first | rfl | (exfalso; omega)
theorem upd_o {f : Nat → Int32} {a : Nat} {x y : Int32} : upd (upd f a x) a y = upd f a y := by
  funext j
  simp only [upd]
  split <;> rfl
theorem wdu_o {f : Nat → Nat → Int32} {a : Nat} {x y : Nat → Int32} : wd_u (wd_u f a x) a y = wd_u f a y := by
  funext j
  simp only [wd_u]
  split <;> rfl
theorem app_get (L : List Int32) (x : Int32) (j : Nat) : (L ++ [x]).getD j 0 = if j < L.length then L.getD j 0 else if j = L.length then x else 0 := by
  rw [List.getD_eq_getElem?_getD, List.getD_eq_getElem?_getD, List.getElem?_append]
  by_cases h : j < L.length
  · rw [if_pos h, if_pos h]
  · rw [if_neg h, if_neg h]
    by_cases e : j = L.length
    · subst e; simp
    · rw [if_neg e, List.getElem?_eq_none (by simp; omega)]; rfl
theorem pLn_put (kp : Nat) (A : Nat → Int32) (L : List Int32) (x : Int32) (h : kp = 1 ∧ L.length < 4000) : upd (pLn kp A L) L.length (vp_nar .byte x.toInt8.toInt32) = pLn kp A (L ++ [x]) := by
  funext j
  by_cases e : j = L.length
  · subst e
    simp [upd, pLn, h.1, h.2, app_get]
  · simp only [upd, if_neg e, pLn, app_get, List.length_append, List.length_cons, List.length_nil]
    by_cases h2 : j < L.length
    · rw [if_pos h2]
      simp only [show j < L.length + (0 + 1) by omega, h2]
    · simp only [h2, show ¬ j < L.length + (0 + 1) by omega, and_false, if_false]
theorem pLn_no (kp : Nat) (A : Nat → Int32) (L : List Int32) (x : Int32) (h : ¬ (kp = 1 ∧ L.length < 4000)) : pLn kp A L = pLn kp A (L ++ [x]) := by
  funext j
  simp only [pLn, app_get, List.length_append, List.length_cons, List.length_nil]
  by_cases h2 : kp = 1 ∧ j < 4000 ∧ j < L.length
  · rw [if_pos h2, if_pos ⟨h2.1, h2.2.1, by omega⟩, if_pos h2.2.2]
  · rw [if_neg h2, if_neg (by omega)]
theorem qLn_put (A : Nat → Int32) (L : List Int32) (x : Int32) (h : L.length < 4000) : upd (qLn A L) L.length x = qLn A (L ++ [x]) := by
  funext j
  by_cases e : j = L.length
  · subst e
    simp [upd, qLn, h, app_get]
  · simp only [upd, if_neg e, qLn, app_get, List.length_append, List.length_cons, List.length_nil]
    by_cases h2 : j < L.length
    · rw [if_pos h2]
      simp only [show j < L.length + (0 + 1) by omega, h2]
    · simp only [h2, show ¬ j < L.length + (0 + 1) by omega, and_false, if_false]
theorem qLn_no (A : Nat → Int32) (L : List Int32) (x : Int32) (h : ¬ L.length < 4000) : qLn A L = qLn A (L ++ [x]) := by
  funext j
  simp only [qLn, app_get, List.length_append, List.length_cons, List.length_nil]
  by_cases h2 : j < 4000 ∧ j < L.length
  · rw [if_pos h2, if_pos ⟨h2.1, by omega⟩, if_pos h2.2]
  · rw [if_neg h2, if_neg (by omega)]
theorem wE_put {C : wd_C} {kp : Nat} {A : Nat → Int32} {s : WS} {x : Int32} (h : kp = 1 ∧ s.2.length < 4000) : (upd (wE C kp A s).1 12 (nI (s.2.length + 1)), wd_u (wE C kp A s).2.1 11 (upd ((wE C kp A s).2.1 11) s.2.length (vp_nar .byte x.toInt8.toInt32)), (wE C kp A s).2.2) = wE C kp A (s.1, s.2 ++ [x]) := by
  show (upd (upd (upd C.1 12 (nI s.2.length)) 15 (nI s.1)) 12 (nI (s.2.length + 1)), wd_u (wd_u C.2.1 11 (pLn kp A s.2)) 11 (upd (pLn kp A s.2) s.2.length (vp_nar .byte x.toInt8.toInt32)), C.2.2) = (upd (upd C.1 12 (nI (s.2 ++ [x]).length)) 15 (nI s.1), wd_u C.2.1 11 (pLn kp A (s.2 ++ [x])), C.2.2)
  rw [pLn_put kp A s.2 x h, wdu_o, upd_c (a := 15) (b := 12) (by decide), upd_o, List.length_append]
  rfl
theorem wE_no {C : wd_C} {kp : Nat} {A : Nat → Int32} {s : WS} {x : Int32} (h : ¬ (kp = 1 ∧ s.2.length < 4000)) : (upd (wE C kp A s).1 12 (nI (s.2.length + 1)), (wE C kp A s).2) = wE C kp A (s.1, s.2 ++ [x]) := by
  show (upd (upd (upd C.1 12 (nI s.2.length)) 15 (nI s.1)) 12 (nI (s.2.length + 1)), wd_u C.2.1 11 (pLn kp A s.2), C.2.2) = (upd (upd C.1 12 (nI (s.2 ++ [x]).length)) 15 (nI s.1), wd_u C.2.1 11 (pLn kp A (s.2 ++ [x])), C.2.2)
  rw [pLn_no kp A s.2 x h, upd_c (a := 15) (b := 12) (by decide), upd_o, List.length_append]
  rfl
theorem wE_bf {C : wd_C} {kp : Nat} {A : Nat → Int32} {s : WS} {t : Nat} : (upd (wE C kp A s).1 15 (nI t), (wE C kp A s).2) = wE C kp A (t, s.2) := by
  show (upd (upd (upd C.1 12 (nI s.2.length)) 15 (nI s.1)) 15 (nI t), _) = _
  rw [upd_o]
  rfl
theorem yE_put {Y : wd_Y} {A : Nat → Int32} {s : WS} {x : Int32} (h : s.2.length < 4000) : (upd (yE Y A s).1 14 (nI (s.2.length + 1)), wd_u (yE Y A s).2.1 14 (upd ((yE Y A s).2.1 14) s.2.length x), (yE Y A s).2.2) = yE Y A (s.1, s.2 ++ [x]) := by
  show (upd (upd (upd Y.1 14 (nI s.2.length)) 15 (nI s.1)) 14 (nI (s.2.length + 1)), wd_u (wd_u Y.2.1 14 (qLn A s.2)) 14 (upd (qLn A s.2) s.2.length x), Y.2.2) = (upd (upd Y.1 14 (nI (s.2 ++ [x]).length)) 15 (nI s.1), wd_u Y.2.1 14 (qLn A (s.2 ++ [x])), Y.2.2)
  rw [qLn_put A s.2 x h, wdu_o, upd_c (a := 15) (b := 14) (by decide), upd_o, List.length_append]
  rfl
theorem yE_no {Y : wd_Y} {A : Nat → Int32} {s : WS} {x : Int32} (h : ¬ s.2.length < 4000) : (upd (yE Y A s).1 14 (nI (s.2.length + 1)), (yE Y A s).2) = yE Y A (s.1, s.2 ++ [x]) := by
  show (upd (upd (upd Y.1 14 (nI s.2.length)) 15 (nI s.1)) 14 (nI (s.2.length + 1)), wd_u Y.2.1 14 (qLn A s.2), Y.2.2) = (upd (upd Y.1 14 (nI (s.2 ++ [x]).length)) 15 (nI s.1), wd_u Y.2.1 14 (qLn A (s.2 ++ [x])), Y.2.2)
  rw [qLn_no A s.2 x h, upd_c (a := 15) (b := 14) (by decide), upd_o, List.length_append]
  rfl
theorem yE_bf {Y : wd_Y} {A : Nat → Int32} {s : WS} {t : Nat} : (upd (yE Y A s).1 15 (nI t), (yE Y A s).2) = yE Y A (t, s.2) := by
  show (upd (upd (upd Y.1 14 (nI s.2.length)) 15 (nI s.1)) 15 (nI t), _) = _
  rw [upd_o]
  rfl
