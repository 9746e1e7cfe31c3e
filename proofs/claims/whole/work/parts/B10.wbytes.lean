/-! all that is written is bytes -/
abbrev bt8 (x : Int32) : Prop := x &&& 255 = x
def byL (L : List Int32) : Prop := ∀ x ∈ L, bt8 x
theorem bt8_k : ∀ j, j < 256 → bt8 (nI j) := by decide +kernel
theorem bt8_j {x : Int32} (h : bt8 x) : ∃ j, j < 256 ∧ x = nI j := by
  obtain ⟨j, h1, h2⟩ := and255 x
  exact ⟨j, h1, (Eq.symm h).trans h2⟩
theorem byL_nil : byL [] := fun _ h => absurd h List.not_mem_nil
theorem byL_app {A B : List Int32} (ha : byL A) (hb : byL B) : byL (A ++ B) := fun x h => (List.mem_append.mp h).elim (ha x) (hb x)
theorem byL_cons {a : Int32} {B : List Int32} (ha : bt8 a) (hb : byL B) : byL (a :: B) := fun x h => (List.mem_cons.mp h).elim (fun e => e ▸ ha) (hb x)
theorem byL_one {a : Int32} (ha : bt8 a) : byL [a] := byL_cons ha byL_nil
theorem byL_dec {L : List Int32} (h : L.all (fun x => decide (bt8 x)) = true) : byL L := fun x hx => of_decide_eq_true (List.all_eq_true.mp h x hx)
theorem byL_ite {p : Prop} [Decidable p] {A B : List Int32} (ha : p → byL A) (hb : ¬ p → byL B) : byL (if p then A else B) := by
  by_cases h : p
  · rw [if_pos h]; exact ha h
  · rw [if_neg h]; exact hb h
theorem fgD_by (n : Nat) : ∀ k, byL (fgD n k)
  | 0 => byL_one (bt8_k _ (by omega))
  | k + 1 => by
    unfold fgD
    have h : n / 10 ^ (k + 1) % 10 < 10 := Nat.mod_lt _ (by decide)
    exact byL_ite (fun _ => byL_cons (bt8_k _ (by omega)) (fgD_by n k)) (fun _ => fgD_by n k)
theorem fgL_by (n : Nat) : byL (fgL n) := fgD_by n 8
theorem frL_by : ∀ (e r : Nat), r < 10 ^ e → byL (frL e r)
  | 0, _, _ => byL_nil
  | e + 1, r, h => by
    unfold frL
    have h1 : r / 10 ^ e < 10 := by
      rw [Nat.div_lt_iff_lt_mul (Nat.pow_pos (by decide))]
      rw [Nat.pow_succ, Nat.mul_comm] at h
      exact h
    exact byL_ite (fun _ => byL_nil) (fun _ => byL_cons (bt8_k _ (by omega)) (frL_by e _ (Nat.mod_lt _ (Nat.pow_pos (by decide)))))
theorem ngL_by (z : Bool) : byL (ngL z) := byL_ite (fun _ => byL_dec (by decide)) (fun _ => byL_nil)
theorem wnL_by (z : Bool) (n : Nat) : byL (wnL z n) := byL_app (ngL_by z) (fgL_by n)
theorem rlL_by (z : Bool) (n : Nat) : byL (rlL z n) := byL_app (byL_app (byL_app (byL_app (ngL_by z) (byL_ite (fun _ => fgL_by _) (fun _ => byL_nil))) (byL_dec (by decide))) (frL_by 6 _ (Nat.mod_lt _ (by decide)))) (byL_ite (fun _ => byL_dec (by decide)) (fun _ => byL_nil))
theorem rfL_by (a g : Nat) : byL (rfL a g) := byL_app (byL_app (byL_app (fgL_by a) (byL_dec (by decide))) (fgL_by g)) (byL_dec (by decide))
theorem getD_by {L : List Int32} (h : byL L) (i : Nat) : bt8 (L.getD i 0) := by
  rw [List.getD_eq_getElem?_getD]
  cases e : L[i]? with
  | none => decide
  | some x => exact h x (List.mem_of_getElem? e)
theorem hxL_by (c : Int32) : byL (hxL c) := byL_cons (getD_by (byL_dec (by decide)) _) (byL_one (getD_by (byL_dec (by decide)) _))
theorem nwL_by : ∀ {L : List Int32}, byL L → byL (nwL L)
  | [], _ => byL_nil
  | c :: r, h => byL_app (byL_ite (fun _ => byL_one (h c List.mem_cons_self)) (fun _ => byL_cons (by decide) (hxL_by c))) (nwL_by (fun x hx => h x (List.mem_cons_of_mem _ hx)))
theorem swL_by : ∀ {L : List Int32}, byL L → byL (swL L)
  | [], _ => byL_nil
  | c :: r, h => byL_app (byL_ite (fun _ => byL_cons (by decide) (byL_one (by
      by_cases e : c = 13
      · rw [if_pos e]; decide
      · rw [if_neg e]; exact h c List.mem_cons_self))) (fun _ => byL_one (h c List.mem_cons_self))) (swL_by (fun x hx => h x (List.mem_cons_of_mem _ hx)))
section WBY
variable {rd : Nat} {V : VT} {nv : Nat}
theorem scL_by {v : Nat} (h : byL (V.2.2.2 v)) : byL (scL V v) := by
  unfold scL
  exact byL_ite (fun _ => byL_ite (fun _ => byL_dec (by decide)) (fun _ => byL_dec (by decide))) (fun _ => byL_ite (fun _ => wnL_by _ _) (fun _ => byL_ite (fun _ => rlL_by _ _) (fun _ => byL_ite (fun _ => byL_cons (by decide) (nwL_by h)) (fun _ => byL_ite (fun _ => byL_cons (by decide) (byL_app (swL_by h) (byL_dec (by decide)))) (fun _ => byL_ite (fun _ => rfL_by _ _) (fun _ => byL_dec (by decide)))))))
theorem gpL_by (a c s : Nat) : byL (gpL a c s) := byL_ite (fun _ => byL_dec (by decide)) (fun _ => byL_nil)
theorem wPc_by {st : WS} (h : byL st.2) (s : Nat) {t : List Int32} (ht : byL t) : byL (wPc rd st s t).2 := byL_app (byL_app h (gpL_by _ _ _)) ht
theorem fold_by {f : Nat} (hF : ∀ (st : WS) (v : Nat), v < nv → byL st.2 → byL (wVl rd V f st v).2) : ∀ (ks : List Nat) (st : WS), (∀ c ∈ ks, c < nv) → byL st.2 → byL (ks.foldl (wVl rd V f) st).2
  | [], _, _, h => h
  | a :: r, st, hc, h => fold_by hF r (wVl rd V f st a) (fun c hh => hc c (List.mem_cons_of_mem _ hh)) (hF st a (hc a List.mem_cons_self) h)
theorem wVl_by (hk : ∀ v, v < nv → ∀ c ∈ V.2.2.1 v, c < nv) (hb : ∀ v, v < nv → byL (V.2.2.2 v)) : ∀ (f : Nat) (st : WS) (v : Nat), v < nv → byL st.2 → byL (wVl rd V f st v).2
  | 0, _, _, _, h => h
  | f + 1, st, v, hv, h => by
    have ih := fold_by (rd := rd) (V := V) (f := f) (nv := nv) (fun st v hv h => wVl_by hk hb f st v hv h) (V.2.2.1 v)
    unfold wVl
    split
    · exact wPc_by (ih _ (hk v hv) (wPc_by h _ (byL_dec (by decide)))) _ (byL_dec (by decide))
    split
    · exact wPc_by (ih _ (hk v hv) (wPc_by h _ (byL_dec (by decide)))) _ (byL_dec (by decide))
    · exact wPc_by h _ (scL_by (hb v hv))
theorem wLn_by {st : WS} (h : byL st.2) (m : Nat) : byL (wLn rd st m).2 := wPc_by (wPc_by h _ (byL_dec (by decide))) _ (fgL_by m)
theorem wDk_by {f : Nat} {lk : Option Nat} {m : Nat} (hF : ∀ (st : WS) (v : Nat), v < nv → byL st.2 → byL (wVl rd V f st v).2) : ∀ (n : Nat) (ks : List Nat) (st : WS), ks.length ≤ n → (∀ c ∈ ks, c < nv) → byL st.2 → byL (wDk rd V f lk m st ks).2
  | _, [], _, _, _, h => by unfold wDk; exact h
  | _, [_], _, _, _, h => by unfold wDk; exact h
  | 0, _ :: _ :: _, _, hl, _, _ => by simp at hl
  | n + 1, k :: x :: r, st, hl, hc, h => by
    unfold wDk
    have hl' : r.length ≤ n := by simp only [List.length_cons] at hl; omega
    have hx : x < nv := hc x (List.mem_cons_of_mem _ List.mem_cons_self)
    have hk : k < nv := hc k List.mem_cons_self
    refine wDk_by hF n r _ hl' (fun c hh => hc c (List.mem_cons_of_mem _ (List.mem_cons_of_mem _ hh))) ?_
    by_cases e : lk = some k
    · rw [if_pos e]; exact wLn_by h m
    · rw [if_neg e]; exact hF _ _ hx (hF _ _ hk h)
theorem wDc_by {f : Nat} (hF : ∀ (st : WS) (v : Nat), v < nv → byL st.2 → byL (wVl rd V f st v).2) {st : WS} {dc : Nat} (hd : ∀ c ∈ V.2.2.1 dc, c < nv) (h : byL st.2) (m : Nat) : byL (wDc rd V f st dc m).2 := by
  have q := wDk_by (lk := vtSpl V dc st_8) (m := m) hF _ (V.2.2.1 dc) (wPc rd st 4 [60, 60]) (Nat.le_refl _) hd (wPc_by h _ (byL_dec (by decide)))
  unfold wDc
  dsimp only
  refine wPc_by ?_ _ (byL_dec (by decide))
  by_cases e : vtSpl V dc st_8 = none
  · rw [if_pos e]; exact wLn_by q m
  · rw [if_neg e]; exact q
theorem wWh_by (hk : ∀ v, v < nv → ∀ c ∈ V.2.2.1 v, c < nv) (hb : ∀ v, v < nv → byL (V.2.2.2 v)) (hst : ∀ v, v < nv → V.1 v = 9 → ∃ c, V.2.2.1 v = [c]) (st : WS) (v : Nat) (hv : v < nv) (h : byL st.2) : byL (wWh rd V st v).2 := by
  have hF := fun f => wVl_by (rd := rd) hk hb f
  unfold wWh
  split
  · rename_i h9
    obtain ⟨c, hc⟩ := hst v hv h9
    have hcn : c < nv := hk v hv c (by rw [hc]; simp)
    have q := wDc_by (rd := rd) (V := V) (nv := nv) (hF 8) (dc := (V.2.2.1 v).headD 0) (by rw [hc]; exact hk c hcn) h (V.2.2.2 v).length
    show byL ((wDc rd V 8 st ((V.2.2.1 v).headD 0) (V.2.2.2 v).length).2 ++ (10 :: st_7 ++ [10]) ++ V.2.2.2 v ++ (10 :: st_9))
    exact byL_app (byL_app (byL_app q (byL_dec (by decide))) (hb v hv)) (byL_dec (by decide))
  · exact hF 9 st v hv h
theorem wOb_by {E : Nat → Nat → Int32} {i : Nat} (hW : ∀ (st : WS) (v : Nat), v < nv → byL st.2 → byL (wWh rd V st v).2) (hE : E i 2 = -1 ∨ ∃ w, w < nv ∧ E i 2 = nI w) (hnv : nv ≤ 300) (st : WS) (h : byL st.2) : byL (wOb rd V E st i).2 := by
  unfold wOb
  split
  · exact h
  · rename_i h2
    obtain ⟨w, hw, e⟩ := hE.resolve_left h2
    have q1 := hW (0, st.2 ++ wHd E i) (E i 2).toNatClampNeg (by rw [e, nI_clamp (by omega)]; exact hw) (byL_app h (byL_app (byL_app (byL_app (fgL_by _) (byL_dec (by decide))) (fgL_by _)) (byL_dec (by decide))))
    exact byL_app q1 (byL_dec (by decide))
theorem wOs_by {E : Nat → Nat → Int32} (hW : ∀ (st : WS) (v : Nat), v < nv → byL st.2 → byL (wWh rd V st v).2) (hnv : nv ≤ 300) : ∀ (c i : Nat) (st : WS), (∀ j, i ≤ j → j < i + c → (E j 2 = -1 ∨ ∃ w, w < nv ∧ E j 2 = nI w)) → byL st.2 → byL (wOs rd V E c i st).2
  | 0, _, _, _, h => h
  | c + 1, i, st, hE, h => by
    rw [wOs]
    exact wOs_by hW hnv c (i + 1) _ (fun j j1 j2 => hE j (by omega) (by omega)) (wOb_by hW (hE i (Nat.le_refl _) (by omega)) hnv st h)
end WBY
