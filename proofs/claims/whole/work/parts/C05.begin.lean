/-! THE BEGINNING: an empty component beside an empty reference; addresses of the world's cells -/
def c0C : wd_C := (fun k => bif Nat.beq k 6 then -1 else 0, fun _ _ => 0, fun _ => 0)
def c0Y : wd_Y := (fun _ => 0, fun _ _ => 0, fun _ => 0, 0)
theorem lwV_0 : lwV c0C c0Y := by
  have z : ∀ {k : Nat} {P : Prop}, k < 0 → P := fun h => absurd h (Nat.not_lt_zero _)
  exact ⟨0, fun _ => -1, 0, 0, (fun _ => 0, fun _ => 0, fun _ => [], fun _ => []), fun _ => 0, 0, fun _ _ => 0, 0, [], 0,
    ⟨rfl, by decide, fun _ h => z h, fun _ _ => rfl⟩, ⟨rfl, by decide, fun _ h => z h, fun _ _ => rfl, fun _ h => z h⟩,
    ⟨⟨rfl, by decide, rfl, by decide⟩, fun _ h => z h, fun _ _ _ h => z h⟩, ⟨⟨rfl, by decide, rfl, by decide⟩, fun _ h => z h⟩,
    fun _ h => z h, ⟨rfl, by decide, fun _ h => z h⟩, ⟨rfl, by decide, fun _ h => z h⟩, fun _ h => z h, rfl, rfl,
    ⟨rfl, by decide, fun _ h => z h⟩, ⟨rfl, by decide, fun _ h => z h⟩, by decide, rfl⟩
def st_ad (P : List Nat) (b : Nat) (adK adV : Nat → Nat) (f k : Nat) : Nat := if k < 38 then P.getD k 0 else if k = 40 then b else if k < 2000 then adK (k - 1000) else if k < 3000 then adV (k - 2000) else f
theorem st_ad_K {P : List Nat} {b : Nat} {adK adV : Nat → Nat} {f i : Nat} (h : i < 1000) : st_ad P b adK adV f (1000 + i) = adK i := by
  rw [st_ad, if_neg (by omega), if_neg (by omega), if_pos (by omega), Nat.add_sub_cancel_left]
theorem st_ad_V {P : List Nat} {b : Nat} {adK adV : Nat → Nat} {f i : Nat} (h : i < 1000) : st_ad P b adK adV f (2000 + i) = adV i := by
  rw [st_ad, if_neg (by omega), if_neg (by omega), if_neg (by omega), if_pos (by omega), Nat.add_sub_cancel_left]
def st_mk (cA : Nat → ClassId) (ad : Nat → Nat) : Nat → am_W → va_W
  | _, [] => []
  | k, x :: r => (ad k, am_ce cA ad x) :: st_mk cA ad (k + 1) r
theorem st_mk_eq {cA : Nat → ClassId} {ad : Nat → Nat} : ∀ (w : am_W) (k : Nat), st_mk cA ad k w = w.mapIdx (fun i x => (ad (k + i), am_ce cA ad x))
  | [], k => by simp [st_mk]
  | x :: r, k => by
    rw [st_mk, st_mk_eq r (k + 1), List.mapIdx_cons]
    congr 1
    refine congrArg (fun f => r.mapIdx f) (funext fun i => funext fun y => ?_)
    rw [Nat.add_assoc, Nat.add_comm 1 i]
theorem am_ws_mk {cA : Nat → ClassId} {ad : Nat → Nat} (w : am_W) : am_ws cA ad w = st_mk cA ad 0 w := by
  rw [st_mk_eq, am_ws]
  refine congrArg (fun f => w.mapIdx f) (funext fun i => funext fun y => ?_)
  rw [Nat.zero_add]
section STW
variable {cB cI cL : ClassId} {b f : Nat} {adK adV : Nat → Nat}
def st_W (cB cI cL : ClassId) (q0 q1 q2 q3 q4 q5 q6 q7 q8 q9 q10 q11 q12 q13 q14 q15 q16 q17 q18 q19 q20 q21 q22 q23 q24 q25 q26 q27 q28 q29 q30 q31 q32 q33 q34 q35 q36 q37 : Nat) : va_W := [(q0, .inr (5, [.ref q1, .ref q3, .ref q14, .ref q16, .ref q17])), (q1, .inr (2, [.ref q2, .int 0])), (q2, .inl (cB, 1600, .inl (fun _ => 0))), (q3, .inr (3, [.ref q4, .ref q5, .ref q6, .ref q7, .ref q8, .ref q9, .ref q10, .ref q11, .ref q12, .ref q13, .int 0, .int 0])), (q4, .inl (cI, 300, .inl (fun _ => 0))), (q5, .inl (cL, 300, .inr (.inl (fun _ => 0)))), (q6, .inl (cI, 300, .inl (fun _ => 0))), (q7, .inl (cI, 300, .inl (fun _ => 0))), (q8, .inl (cI, 300, .inl (fun _ => 0))), (q9, .inl (cI, 300, .inl (fun _ => 0))), (q10, .inl (cI, 300, .inl (fun _ => 0))), (q11, .inl (cI, 300, .inl (fun _ => 0))), (q12, .inl (cI, 300, .inl (fun _ => 0))), (q13, .inl (cB, 2000, .inl (fun _ => 0))), (q14, .inr (0, [.ref q15, .int 0])), (q15, .inl (cI, 160, .inl (fun _ => 0))), (q16, .inr (1, [.ref q1, .ref q3, .ref q14, .int 0, .int 0, .int (-1), .int 0, .int 0, .int 0, .int 0])), (q17, .inr (4, [.ref q3, .ref q14, .ref q18, .int 0, .int 0, .int 0, .int 0, .int 0])), (q18, .inl (cB, 4000, .inl (fun _ => 0))), (q19, .inr (6, [.int 0, .int 0, .ref q20, .int 0, .ref q21, .int 0, .int 0, .ref q22, .ref q23, .ref q24, .ref q25, .ref q26, .ref q27, .ref q28, .ref q29, .int 0, .ref q30, .int 0, .int 0, .int 0, .int 0, .int 0, .ref q31, .long 0, .int 0, .int 0, .ref q32, .ref q33, .int 0, .ref q34, .int 0, .ref q35, .int 0, .int 0, .ref q36])), (q20, .inl (cI, 1600, .inl (fun _ => 0))), (q21, .inl (cI, 160, .inl (fun _ => 0))), (q22, .inl (cI, 300, .inl (fun _ => 0))), (q23, .inl (cL, 300, .inr (.inl (fun _ => 0)))), (q24, .inl (cI, 300, .inl (fun _ => 0))), (q25, .inl (cI, 300, .inl (fun _ => 0))), (q26, .inl (cI, 300, .inl (fun _ => 0))), (q27, .inl (cI, 300, .inl (fun _ => 0))), (q28, .inl (cI, 300, .inl (fun _ => 0))), (q29, .inl (cI, 300, .inl (fun _ => 0))), (q30, .inl (cI, 2000, .inl (fun _ => 0))), (q31, .inl (cI, 420, .inl (fun _ => 0))), (q32, .inl (cI, 9, .inl (fun _ => 0))), (q33, .inl (cI, 9, .inl (fun _ => 0))), (q34, .inl (cI, 4000, .inl (fun _ => 0))), (q35, .inl (cI, 4000, .inl (fun _ => 0))), (q36, .inl (cI, 10, .inl (fun _ => 0))), (q37, .inl (cL, 1, .inr (.inl (fun _ => 0))))]
set_option maxRecDepth 100000 in
theorem st_Weq {q0 q1 q2 q3 q4 q5 q6 q7 q8 q9 q10 q11 q12 q13 q14 q15 q16 q17 q18 q19 q20 q21 q22 q23 q24 q25 q26 q27 q28 q29 q30 q31 q32 q33 q34 q35 q36 q37 : Nat} : am_ws (sg_cA cB cI cL) (st_ad [q0, q1, q2, q3, q4, q5, q6, q7, q8, q9, q10, q11, q12, q13, q14, q15, q16, q17, q18, q19, q20, q21, q22, q23, q24, q25, q26, q27, q28, q29, q30, q31, q32, q33, q34, q35, q36, q37] b adK adV f) (wd c0C c0Y (fun _ => 0)) = st_W cB cI cL q0 q1 q2 q3 q4 q5 q6 q7 q8 q9 q10 q11 q12 q13 q14 q15 q16 q17 q18 q19 q20 q21 q22 q23 q24 q25 q26 q27 q28 q29 q30 q31 q32 q33 q34 q35 q36 q37 := by
  rw [am_ws_mk]
  rfl
end STW
section STI
variable {D : va_G} {A : Nat → Prop} {p : Program} {l : Launch} {e : Env} {R : Room} {s : State} {m : MethodId} {args : Array Value} {below : List Frame} {meth : Method} {c : Code} {nL : Nat} {Q : State → Prop} {tys : List (ClassId × FieldType)} {own : String} {cc : ByteArray} {ws : va_W} {cells slots pc : Nat} {lv : List (Nat × Value)} {S : List Value}
theorem r_ist (hX : rX D A tys own cc nL p s m args c) {i : Nat} {x : Int32} {lv' : List (Nat × Value)} (hd : decode cc pc = .ok (.istore i, 2)) (hn : i < nL) (hl9 : (i, Value.int x) :: lv.filter (fun q => !(q.1 == i) && !(q.1 + 1 == i && q.2.category == 2)) = lv') (kk : rG D A p l e R s m args below meth c nL Q ws cells slots (pc + 2) lv' S) : rG D A p l e R s m args below meth c nL Q ws cells slots pc lv (.int x :: S) :=
  fun H locs _ hP hD hS hl => lv_istore hX.1 hX.2.1 hd hl hn hl9 (fun ls1 hl1 => kk H locs ls1 hP hD hS hl1)
end STI
