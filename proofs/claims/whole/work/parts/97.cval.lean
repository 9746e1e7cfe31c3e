/-! the component puts values; printed by wip/gen/g97.py -/
section TSW
variable {l : Launch} {D : va_G} {cA : Nat → ClassId} {ad : Nat → Nat} {fm : Value} {dd n pc len : Nat} {M : am_M} {post : Option Value → am_W → Prop} {L : am_L} {S : List Value} {w : am_W} {x : Int32} {d lo hi : Int} {offs : Array Int}
theorem am_tsw_r (hM : am_ok M) (ht : am_tb M pc = some (.tableswitch d lo hi offs, len)) (hc : (decide (0 ≤ (pc : Int) + d) && decide (offs.size = (hi - lo + 1).toNat) && decide (lo ≤ hi) && offs.all (fun q => decide (0 ≤ (pc : Int) + q))) = true) (r : am_Rn l D cA ad fm dd M n post (am_tsw pc d lo hi offs x, L, S, w)) : am_Rn l D cA ad fm dd M n post (pc, L, .int x :: S, w) := by
  have e : am_step (am_co M) (am_ml M) (am_tb M) (pc, L, .int x :: S, w) = (bif (decide (0 ≤ (pc : Int) + d) && decide (offs.size = (hi - lo + 1).toNat) && decide (lo ≤ hi) && offs.all (fun q => decide (0 ≤ (pc : Int) + q))) then some (am_tsw pc d lo hi offs x, L, S, w) else none) := by
    simp only [am_step, ht, am_len, show Nat.beq 0 0 = true from rfl, Bool.or_true, cond_true]
    rfl
  exact am_steps_r hM 1 (by simp only [am_steps, e, hc, cond_true]) r
end TSW
section WF
variable {rd : Nat} {V : VT}
theorem scS_le (k : Int32) : scS k ≤ 5 := by unfold scS; split; omega; split <;> omega
theorem fold_le {F : WS → Nat → WS} (hF : ∀ st v, st.2.length ≤ (F st v).2.length) : ∀ (ks : List Nat) (st : WS), st.2.length ≤ (ks.foldl F st).2.length
  | [], st => Nat.le_refl _
  | a :: r, st => Nat.le_trans (hF st a) (fold_le hF r (F st a))
theorem wPc_le (st : WS) (s : Nat) (t : List Int32) : st.2.length + t.length ≤ (wPc rd st s t).2.length := by
  simp only [wPc, List.length_append]; omega
theorem wVl_le : ∀ (f : Nat) (st : WS) (v : Nat), st.2.length ≤ (wVl rd V f st v).2.length
  | 0, st, v => Nat.le_refl _
  | f + 1, st, v => by
    have h1 := fun (t : List Int32) => fold_le (F := wVl rd V f) (fun st v => wVl_le f st v) (V.2.2.1 v) (wPc rd st 4 t)
    unfold wVl
    split
    · have a := wPc_le (rd := rd) st 4 [91]
      have b := wPc_le (rd := rd) ((V.2.2.1 v).foldl (wVl rd V f) (wPc rd st 4 [91])) 5 [93]
      have c := h1 [91]
      omega
    · split
      · have a := wPc_le (rd := rd) st 4 [60, 60]
        have b := wPc_le (rd := rd) ((V.2.2.1 v).foldl (wVl rd V f) (wPc rd st 4 [60, 60])) 5 [62, 62]
        have c := h1 [60, 60]
        omega
      · have a := wPc_le (rd := rd) st (scS (V.1 v)) (scL V v)
        omega
theorem wVl_bf : ∀ (f : Nat) (st : WS) (v : Nat), st.1 ≤ 5 → (wVl rd V f st v).1 ≤ 5
  | 0, st, v, h => h
  | f + 1, st, v, h => by
    unfold wVl
    split
    · exact Nat.le_refl 5
    · split
      · exact Nat.le_refl 5
      · exact scS_le _
theorem fold_bf {f : Nat} : ∀ (ks : List Nat) (st : WS), st.1 ≤ 5 → (ks.foldl (wVl rd V f) st).1 ≤ 5
  | [], st, h => h
  | a :: r, st, h => fold_bf r _ (wVl_bf f st a h)
theorem wLn_le (st : WS) (m : Nat) : st.2.length + (fgL m).length + 7 ≤ (wLn rd st m).2.length := by
  have a := wPc_le (rd := rd) st 2 (47 :: st_8)
  have b := wPc_le (rd := rd) (wPc rd st 2 (47 :: st_8)) 1 (fgL m)
  have c : (47 :: st_8 : List Int32).length = 7 := rfl
  unfold wLn
  omega
theorem wDk_le {f : Nat} {lk : Option Nat} {m : Nat} : ∀ (n : Nat) (ks : List Nat) (st : WS), ks.length ≤ n → st.2.length ≤ (wDk rd V f lk m st ks).2.length
  | _, [], st, _ => by unfold wDk; exact Nat.le_refl _
  | _, [a], st, _ => by unfold wDk; exact Nat.le_refl _
  | 0, a :: x :: r, st, h => by simp at h
  | n + 1, a :: x :: r, st, h => by
    rw [wDk]
    refine Nat.le_trans ?_ (wDk_le n r _ (by simp at h; omega))
    split
    · have := wLn_le (rd := rd) st m; omega
    · exact Nat.le_trans (wVl_le f st a) (wVl_le f _ x)
theorem wDk_no {f : Nat} {m : Nat} : ∀ (n : Nat) (ks : List Nat) (st : WS), ks.length = 2 * n → wDk rd V f none m st ks = ks.foldl (wVl rd V f) st
  | 0, [], st, _ => by unfold wDk; rfl
  | 0, a :: r, st, h => by simp at h
  | n + 1, [], st, h => by simp at h
  | n + 1, [a], st, h => by simp at h; omega
  | n + 1, a :: x :: r, st, h => by
    rw [wDk, if_neg (by simp), wDk_no n r _ (by simp at h; omega)]
    rfl
theorem wDc_le {f bf : Nat} {L : List Int32} {v m : Nat} : (wDk rd V f (vtSpl V v st_8) m (4, L ++ gpL rd bf 4 ++ st_18) (V.2.2.1 v)).2.length ≤ (wDc rd V f (bf, L) v m).2.length := by
  have e : wDc rd V f (bf, L) v m = wPc rd (if vtSpl V v st_8 = none then wLn rd (wDk rd V f (vtSpl V v st_8) m (4, L ++ gpL rd bf 4 ++ st_18) (V.2.2.1 v)) m else wDk rd V f (vtSpl V v st_8) m (4, L ++ gpL rd bf 4 ++ st_18) (V.2.2.1 v)) 5 [62, 62] := rfl
  rw [e]
  split
  · exact Nat.le_trans (Nat.le_trans (by have := wLn_le (rd := rd) (wDk rd V f (vtSpl V v st_8) m (4, L ++ gpL rd bf 4 ++ st_18) (V.2.2.1 v)) m; omega) (Nat.le_add_right _ _)) (wPc_le _ 5 [62, 62])
  · exact Nat.le_trans (Nat.le_add_right _ _) (wPc_le _ 5 [62, 62])
theorem wVl_nm {f bf : Nat} {L : List Int32} {k : Nat} (hf : 0 < f) (h : V.1 k = 4) : wVl rd V f (bf, L) k = (2, L ++ gpL rd bf 2 ++ (47 :: nwL (V.2.2.2 k))) := by
  rcases f with _ | f
  · omega
  · simp [wVl, h, wPc, scS, scL]
theorem nmB {f bf m k x : Nat} {L : List Int32} {lk : Option Nat} {r : List Nat} (hb : (wDk rd V f lk m (if lk = some k then wLn rd (bf, L) m else wVl rd V f (wVl rd V f (bf, L) k) x) r).2.length + 1000 < 2147483648) (hnm : wVl rd V f (bf, L) k = (2, L ++ gpL rd bf 2 ++ (47 :: nwL (V.2.2.2 k)))) (h8 : lk = some k → V.2.2.2 k = st_8) : L.length + (nwL (V.2.2.2 k)).length + 100 < 2147483648 := by
  have q := wDk_le (rd := rd) (V := V) (f := f) (lk := lk) (m := m) _ r (if lk = some k then wLn rd (bf, L) m else wVl rd V f (wVl rd V f (bf, L) k) x) (Nat.le_refl _)
  by_cases e : lk = some k
  · rw [if_pos e] at q hb
    have q2 := wLn_le (rd := rd) (bf, L) m
    have q3 : (bf, L).2.length = L.length := rfl
    have q5 : (nwL (V.2.2.2 k)).length = 6 := by rw [h8 e]; decide +kernel
    omega
  · rw [if_neg e, hnm] at q hb
    have q2 := wVl_le (rd := rd) (V := V) f (2, L ++ gpL rd bf 2 ++ (47 :: nwL (V.2.2.2 k))) x
    have q3 : L.length + (nwL (V.2.2.2 k)).length ≤ (2, L ++ gpL rd bf 2 ++ (47 :: nwL (V.2.2.2 k))).2.length := by
      show _ ≤ (L ++ gpL rd bf 2 ++ (47 :: nwL (V.2.2.2 k))).length
      simp only [List.length_append, List.length_cons]
      omega
    omega
theorem wVl_6 {f bf : Nat} {L : List Int32} {v : Nat} (h : V.1 v = 6) : wVl rd V (f + 1) (bf, L) v = wPc rd ((V.2.2.1 v).foldl (wVl rd V f) (4, L ++ gpL rd bf 4 ++ st_15)) 5 st_16 := by
  rw [wVl, if_pos h]; rfl
theorem wVl_7 {f bf : Nat} {L : List Int32} {v : Nat} (h : V.1 v = 7) : wVl rd V (f + 1) (bf, L) v = wPc rd ((V.2.2.1 v).foldl (wVl rd V f) (4, L ++ gpL rd bf 4 ++ st_18)) 5 st_20 := by
  rw [wVl, if_neg (by rw [h]; decide), if_pos h]; rfl
theorem wVl_sc {f bf : Nat} {L : List Int32} {v : Nat} (h6 : ¬ V.1 v = 6) (h7 : ¬ V.1 v = 7) : wVl rd V (f + 1) (bf, L) v = (scS (V.1 v), L ++ gpL rd bf (scS (V.1 v)) ++ scL V v) := by
  rw [wVl, if_neg h6, if_neg h7]; rfl
theorem wVl_1 {f bf : Nat} {L : List Int32} {v : Nat} (h : V.1 v = 1) : wVl rd V (f + 1) (bf, L) v = (1, L ++ gpL rd bf 1 ++ (if V.2.1 v = 1 then st_11 else st_12)) := by
  rw [wVl_sc (by rw [h]; decide) (by rw [h]; decide), scL, h]; rfl
theorem wVl_2 {f bf : Nat} {L : List Int32} {v : Nat} (h : V.1 v = 2) : wVl rd V (f + 1) (bf, L) v = (1, L ++ gpL rd bf 1 ++ wnL (isN (V.2.1 v)) (abN (V.2.1 v))) := by
  rw [wVl_sc (by rw [h]; decide) (by rw [h]; decide), scL, h]; rfl
theorem wVl_3 {f bf : Nat} {L : List Int32} {v : Nat} (h : V.1 v = 3) : wVl rd V (f + 1) (bf, L) v = (1, L ++ gpL rd bf 1 ++ rlL (isN (V.2.1 v)) (abN (V.2.1 v))) := by
  rw [wVl_sc (by rw [h]; decide) (by rw [h]; decide), scL, h]; rfl
theorem wVl_4 {f bf : Nat} {L : List Int32} {v : Nat} (h : V.1 v = 4) : wVl rd V (f + 1) (bf, L) v = (2, L ++ gpL rd bf 2 ++ (47 :: nwL (V.2.2.2 v))) := by
  rw [wVl_sc (by rw [h]; decide) (by rw [h]; decide), scL, h]; rfl
theorem wVl_5 {f bf : Nat} {L : List Int32} {v : Nat} (h : V.1 v = 5) : wVl rd V (f + 1) (bf, L) v = (3, L ++ gpL rd bf 3 ++ (40 :: (swL (V.2.2.2 v) ++ [41]))) := by
  rw [wVl_sc (by rw [h]; decide) (by rw [h]; decide), scL, h]; rfl
theorem wVl_8 {f bf : Nat} {L : List Int32} {v : Nat} (h : V.1 v = 8) : wVl rd V (f + 1) (bf, L) v = (1, L ++ gpL rd bf 1 ++ rfL (abN (V.2.1 v) % 1000000000) (abN (V.2.1 v) / 1000000000)) := by
  rw [wVl_sc (by rw [h]; decide) (by rw [h]; decide), scL, h]; rfl
theorem wVl_0 {f bf : Nat} {L : List Int32} {v : Nat} (h : V.1 v = 0) : wVl rd V (f + 1) (bf, L) v = (1, L ++ gpL rd bf 1 ++ st_24) := by
  rw [wVl_sc (by rw [h]; decide) (by rw [h]; decide), scL, h]; rfl
theorem nb_2 {kd : Int32} {x : Int64} (h : nbOK kd x) (hk : kd = 2) : abN x < 1000000000 := by
  obtain ⟨m, m1, m2⟩ := h.1 hk
  have e := lN_toInt63 (n := m) (by omega)
  rcases m2 with rfl | rfl
  · rw [(is_lN (by omega)).2]; exact m1
  · unfold abN
    rw [Int64.toInt_neg, e, Int.bmod_eq_of_le (by omega) (by omega)]
    omega
theorem nb_3 {kd : Int32} {x : Int64} (h : nbOK kd x) (hk : kd = 3) : abN x < 1000000000000000 := by
  obtain ⟨m, m1, m2⟩ := h.2.1 hk
  have e := lN_toInt63 (n := m) (by omega)
  rcases m2 with rfl | rfl
  · rw [(is_lN (by omega)).2]; exact m1
  · unfold abN
    rw [Int64.toInt_neg, e, Int.bmod_eq_of_le (by omega) (by omega)]
    omega
theorem nb_8 {kd : Int32} {x : Int64} (h : nbOK kd x) (hk : kd = 8) : ∃ n, n < 2 ^ 62 ∧ x = lN n ∧ abN x = n ∧ n / 1000000000 < 1000000000 := by
  obtain ⟨a, g, a1, g1, rfl⟩ := h.2.2.1 hk
  have e : lN g * 1000000000 + lN a = lN (g * 1000000000 + a) := by
    rw [show (1000000000 : Int64) = lN 1000000000 from rfl, lN_mul, lN_add]
  exact ⟨g * 1000000000 + a, by omega, e, by rw [e, (is_lN (by omega)).2], by omega⟩
end WF
theorem oN_eqk {lk : Option Nat} {k : Nat} (hk : k < 2 ^ 31) (hl : ∀ t, lk = some t → t < 2 ^ 31) : nI k = oN lk ↔ lk = some k := by
  rcases lk with _ | t
  · constructor
    · intro h; exact absurd h (nI_nm hk)
    · intro h; cases h
  · constructor
    · intro h
      have := (nI_eq hk (hl t rfl)).mp h
      rw [this]
    · intro h; cases h; rfl
/-- nothing but writing may be told of a value with this outcome -/
def wRt (C : wd_C) (Y : wd_Y) (og : Nat → Int64) (kp : Nat) (A : Nat → Int32) (s : WS) : Option Value → am_W → Prop := fun vr w' => vr = none ∧ ∃ C2, w' = wd C2 Y og ∧ C2 = wE C kp A s
theorem fgD_len (n : Nat) : ∀ k, (fgD n k).length ≤ k + 1
  | 0 => by simp [fgD]
  | k + 1 => by
    have := fgD_len n k
    rw [fgD]
    split
    · simp; omega
    · omega
theorem frL_len : ∀ (e r : Nat), (frL e r).length ≤ e
  | 0, r => by simp [frL]
  | e + 1, r => by
    rw [frL]
    split
    · simp
    · have := frL_len e (r % 10 ^ e)
      simp; omega
theorem fgL_len (n : Nat) : (fgL n).length ≤ 9 := fgD_len n 8
section C97
variable {l : Launch} {D : va_G} {cA : Nat → ClassId} {ad : Nat → Nat} {fm : Value}
set_option maxHeartbeats 4000000 in
set_option maxRecDepth 100000 in
theorem lp_W_putArray_19 (d : Nat) (C : wd_C) (Y : wd_Y) (og : Nat → Int64) (kp rd : Nat) (A : Nat → Int32) (hk : C.1 13 = nI kp) (hkp : kp ≤ 1) (hr : C.1 14 = nI rd) (hrd : rd ≤ 1) (hfm : fm = .null ∨ fm = .ref 3000) (nv u : Nat) (V : VT) (hS : vsC C nv u V) (ht : Nat → Nat) (hg : hG nv V ht) (dp f : Nat) (hdf : dp + f = 8) (IH : ∀ (bf : Nat) (L : List Int32) (C1 : wd_C) (x : Nat), bf ≤ 5 → C1 = wE C kp A (bf, L) → x < nv → ht x + (dp + 1) ≤ 8 → (wVl rd V f (bf, L) x).2.length + 1000 < 2147483648 → am_Mt l D cA ad fm (d + 7) m_W_putValue [.ref 17, .int (nI x), .int (nI (dp + 1))] (wd C1 Y og) (wRt C Y og kp A (wVl rd V f (bf, L) x))) (v : Nat) (hv : v < nv)  : ∀ (fu : Nat) (post : Option Value → am_W → Prop) (rest : List Nat) (y : Int32) (n0 : Nat) (bf : Nat) (L : List Int32) (C1 : wd_C), (bf ≤ 5) → (C1 = wE C kp A (bf, L)) → (∀ a ∈ rest, a < nv ∧ ht a + (dp + 1) ≤ 8) → (lkd (C.2.1 7) y rest) → (n0 + rest.length = (V.2.2.1 v).length) → ((rest.foldl (wVl rd V f) (bf, L)).2.length + 1000 < 2147483648) → (∀ C2, C2 = wE C kp A (wPc rd (rest.foldl (wVl rd V f) (bf, L)) 5 st_16) → post none (wd C2 Y og)) → rest.length < fu → am_Rn l D cA ad fm (d + 8) m_W_putArray (wd C Y og).length post (19, [some (.ref 17), some (.int (nI v)), some (.int (nI dp)), some (.int y), some (.int (nI n0))], [], wd C1 Y og) := by
  intro fu
  induction fu with
  | zero => intro post rest y n0 bf L C1 hbf h1 hre hlk hlen hb hpo hfu; exact absurd hfu (Nat.not_lt_zero _)
  | succ fu ih =>
    intro post rest y n0 bf L C1 hbf h1 hre hlk hlen hb hpo hfu
    have hnv := hS.1.2.1
    have hl3 := vsC_len hS hv
    have hbL : L.length + 1000 < 2147483648 := by have := fold_le (F := wVl rd V f) (fun st v => wVl_le f st v) rest (bf, L); have h9 : (bf, L).2.length = L.length := rfl; omega
    refine am_steps_r ok_W_putArray 4 (q' := (26, [some (.ref 17), some (.int (nI v)), some (.int (nI dp)), some (.int y), some (.int (nI n0))], [.int (nI v), .ref 3, .int (nI n0)], wd C1 Y og)) rfl ?_
    refine am_callV_r (As := [.int (nI v)]) (rest := [.int (nI n0)]) ok_W_putArray rfl rfl ok_V_partsOf oi_V_partsOf lk_4_176 (Or.inl ⟨_, _, _, rfl, rfl, rfl⟩) rfl rfl (Nat.le_of_ble_eq_true rfl) (v_parts _ hS h1 (v := v) hv) ?_
    rintro v_ w_ ⟨rfl, rfl⟩ -
    refine am_eq_r (q' := (29, [some (.ref 17), some (.int (nI v)), some (.int (nI dp)), some (.int y), some (.int (nI n0))], [.int (nI ((V.2.2.1 v).length)), .int (nI n0)], wd C1 Y og)) rfl ?_
    refine am_steps_r ok_W_putArray 1 (q' := (bif decide ((nI ((V.2.2.1 v).length)) ≤ (nI n0)) then 61 else 32, [some (.ref 17), some (.int (nI v)), some (.int (nI dp)), some (.int y), some (.int (nI n0))], [], wd C1 Y og)) rfl ?_
    refine am_br_r (fun h_2 => ?_) (fun h_2 => ?_)
    · skip
      have h_2 : ((V.2.2.1 v).length) ≤ n0 := (nI_leI (show ((V.2.2.1 v).length) < 2 ^ 31 by omega) (show n0 < 2 ^ 31 by omega)).mp h_2
      have hre : rest = [] := List.eq_nil_of_length_eq_zero (by omega)
      subst hre
      refine am_steps_r ok_W_putArray 3 (q' := (65, [some (.ref 17), some (.int (nI v)), some (.int (nI dp)), some (.int y), some (.int (nI n0))], [.ref 1016, .int 5, .ref 17], wd C1 Y og)) rfl ?_
      refine am_callV_r (As := [.int 5, .ref 1016]) (rest := []) ok_W_putArray rfl rfl ok_W_putMark oi_W_putMark lk_4_111 (Or.inl ⟨_, _, _, rfl, rfl, rfl⟩) rfl rfl (Nat.le_of_ble_eq_true rfl) (c_W_putMark _ C Y og kp rd A hk hkp hr hrd bf L (by omega) C1 h1 5 (by omega) 16 _ _ _ st_16 rfl (by decide) hfm (by have hL9 : st_16.length < 20 := (by decide); first | omega | (simp only [List.length_append, List.length_cons, List.length_nil] at hb ⊢; omega) | (simp only [List.length_append, List.length_cons, List.length_nil]; omega))) ?_
      rintro v_ w_ ⟨rfl, C_3, rfl, hC_4⟩ -
      have hgpC_3 := gpL_1 rd bf 5
      have hstC_3 : st_16.length < 20 := by decide
      refine am_eq_r (q' := (68, [some (.ref 17), some (.int (nI v)), some (.int (nI dp)), some (.int y), some (.int (nI n0))], [], wd C_3 Y og)) rfl ?_
      refine am_vret_r ok_W_putArray rfl rfl rfl ?_
      refine hpo _ ?_
      exact hC_4
    · skip
      have h_2 : ¬ ((V.2.2.1 v).length) ≤ n0 := fun z => h_2 ((nI_leI (show ((V.2.2.1 v).length) < 2 ^ 31 by omega) (show n0 < 2 ^ 31 by omega)).mpr z)
      rcases rest with _ | ⟨a, r⟩
      · exfalso; simp at hlen; omega
      obtain ⟨rfl, hx2⟩ := hlk
      obtain ⟨ha1, ha2⟩ := hre a List.mem_cons_self
      have hlen2 : n0 + 1 + r.length = (V.2.2.1 v).length := by simp only [List.length_cons] at hlen; omega
      have hb2 : (r.foldl (wVl rd V f) (wVl rd V f (bf, L) a)).2.length + 1000 < 2147483648 := hb
      have hb3 := fold_le (F := wVl rd V f) (fun st v => wVl_le f st v) r (wVl rd V f (bf, L) a)
      refine am_steps_r ok_W_putArray 3 (q' := (bif decide (8 ≤ (nI dp)) then 61 else 38, [some (.ref 17), some (.int (nI v)), some (.int (nI dp)), some (.int (nI a)), some (.int (nI n0))], [], wd C1 Y og)) rfl ?_
      refine am_br_r (fun h_5 => ?_) (fun h_5 => ?_)
      · skip
        have h_5 : 8 ≤ dp := (nI_leI (show 8 < 2 ^ 31 by omega) (show dp < 2 ^ 31 by omega)).mp h_5
        exfalso; omega
      · skip
        have h_5 : ¬ 8 ≤ dp := fun z => h_5 ((nI_leI (show 8 < 2 ^ 31 by omega) (show dp < 2 ^ 31 by omega)).mpr z)
        refine am_steps_r ok_W_putArray 5 (q' := (43, [some (.ref 17), some (.int (nI v)), some (.int (nI dp)), some (.int (nI a)), some (.int (nI n0))], [.int ((nI dp) + 1), .int (nI a), .ref 17], wd C1 Y og)) rfl ?_
        rw [show ((nI dp) + 1 : Int32) = nI (dp + 1) from nI_add dp 1]
        have hlb : (wVl rd V f (bf, L) a).2.length + 1000 < 2147483648 := by omega
        refine am_callV_r (As := [.int (nI a), .int (nI (dp + 1))]) (rest := []) ok_W_putArray rfl rfl ok_W_putValue oi_W_putValue lk_4_44 (Or.inl ⟨_, _, _, rfl, rfl, rfl⟩) rfl rfl (Nat.le_of_ble_eq_true rfl) (IH bf L C1 a (by omega) h1 (by omega) (by omega) hlb) ?_
        rintro v_ w_ ⟨rfl, C_6, rfl, hC_7⟩ -
        have hbbn_8 : (wVl rd V f (bf, L) a).1 ≤ 5 := wVl_bf f _ _ (show bf ≤ 5 by omega)
        obtain ⟨bn_8, Ln_8, hsn_8⟩ : ∃ b_ L_, wVl rd V f (bf, L) a = (b_, L_) := ⟨_, _, rfl⟩
        rw [hsn_8] at hC_7 hbbn_8
        have hb5n_8 : bn_8 ≤ 5 := hbbn_8
        refine am_eq_r (q' := (46, [some (.ref 17), some (.int (nI v)), some (.int (nI dp)), some (.int (nI a)), some (.int (nI n0))], [], wd C_6 Y og)) rfl ?_
        refine am_steps_r ok_W_putArray 3 (q' := (51, [some (.ref 17), some (.int (nI v)), some (.int (nI dp)), some (.int (nI a)), some (.int (nI n0))], [.int (nI a), .ref 3], wd C_6 Y og)) rfl ?_
        refine am_callV_r (As := [.int (nI a)]) (rest := []) ok_W_putArray rfl rfl ok_V_nextOf oi_V_nextOf lk_4_179 (Or.inl ⟨_, _, _, rfl, rfl, rfl⟩) rfl rfl (Nat.le_of_ble_eq_true rfl) (v_next _ hS hC_7 (v := a) (by omega)) ?_
        rintro v_ w_ ⟨rfl, rfl⟩ -
        refine am_eq_r (q' := (54, [some (.ref 17), some (.int (nI v)), some (.int (nI dp)), some (.int (nI a)), some (.int (nI n0))], [.int (C.2.1 7 a)], wd C_6 Y og)) rfl ?_
        refine am_steps_r ok_W_putArray 3 (q' := (19, [some (.ref 17), some (.int (nI v)), some (.int (nI dp)), some (.int (C.2.1 7 a)), some (.int ((nI n0) + 1))], [], wd C_6 Y og)) rfl ?_
        rw [show ((nI n0) + 1 : Int32) = nI (n0 + 1) from nI_add n0 1]
        exact ih post r (C.2.1 7 a) (n0 + 1) bn_8 Ln_8 C_6 (by omega) hC_7 (fun z hz => hre z (List.mem_cons_of_mem _ hz)) hx2 hlen2 (by rw [← hsn_8]; exact hb2) (by rw [← hsn_8]; exact hpo) (by simp only [List.length_cons] at hfu; omega)
set_option maxHeartbeats 4000000 in
set_option maxRecDepth 100000 in
theorem c_W_putArray (d : Nat) (C : wd_C) (Y : wd_Y) (og : Nat → Int64) (kp rd : Nat) (A : Nat → Int32) (hk : C.1 13 = nI kp) (hkp : kp ≤ 1) (hr : C.1 14 = nI rd) (hrd : rd ≤ 1) (hfm : fm = .null ∨ fm = .ref 3000) (nv u : Nat) (V : VT) (hS : vsC C nv u V) (ht : Nat → Nat) (hg : hG nv V ht) (dp f : Nat) (hdf : dp + f = 8) (IH : ∀ (bf : Nat) (L : List Int32) (C1 : wd_C) (x : Nat), bf ≤ 5 → C1 = wE C kp A (bf, L) → x < nv → ht x + (dp + 1) ≤ 8 → (wVl rd V f (bf, L) x).2.length + 1000 < 2147483648 → am_Mt l D cA ad fm (d + 7) m_W_putValue [.ref 17, .int (nI x), .int (nI (dp + 1))] (wd C1 Y og) (wRt C Y og kp A (wVl rd V f (bf, L) x))) (v : Nat) (hv : v < nv) (h6 : V.1 v = 6) (hhd : ht v + dp ≤ 8) (bf : Nat) (L : List Int32) (hbf : bf ≤ 5) (C1 : wd_C) (h1 : C1 = wE C kp A (bf, L)) (hb : ((V.2.2.1 v).foldl (wVl rd V f) (4, L ++ gpL rd bf 4 ++ st_15)).2.length + 1000 < 2147483648) : am_Mt l D cA ad fm (d + 8) m_W_putArray [.ref 17, .int (nI v), .int (nI dp)] (wd C1 Y og) (wRt C Y og kp A (wVl rd V (f + 1) (bf, L) v)) := by
  have hnv := hS.1.2.1
  have hl3 := vsC_len hS hv
  have hbL : L.length + 1000 < 2147483648 := by have h8 := fold_le (F := wVl rd V f) (fun st v => wVl_le f st v) (V.2.2.1 v) (4, L ++ gpL rd bf 4 ++ st_15); have h9 : L.length ≤ (4, L ++ gpL rd bf 4 ++ st_15).2.length := (by show L.length ≤ (L ++ gpL rd bf 4 ++ st_15).length; simp only [List.length_append]; omega); omega
  refine am_mt ok_W_putArray (by simp [am_arg, Value.category, m_W_putArray, am_ml]) ?_
  refine am_eq_r (q' := (0, [some (.ref 17), some (.int (nI v)), some (.int (nI dp)), none, none], [], wd C1 Y og)) rfl ?_
  refine am_steps_r ok_W_putArray 3 (q' := (4, [some (.ref 17), some (.int (nI v)), some (.int (nI dp)), none, none], [.ref 1015, .int 4, .ref 17], wd C1 Y og)) rfl ?_
  refine am_callV_r (As := [.int 4, .ref 1015]) (rest := []) ok_W_putArray rfl rfl ok_W_putMark oi_W_putMark lk_4_111 (Or.inl ⟨_, _, _, rfl, rfl, rfl⟩) rfl rfl (Nat.le_of_ble_eq_true rfl) (c_W_putMark _ C Y og kp rd A hk hkp hr hrd bf L (by omega) C1 h1 4 (by omega) 15 _ _ _ st_15 rfl (by decide) hfm (by have hL9 : st_15.length < 20 := (by decide); first | omega | (simp only [List.length_append, List.length_cons, List.length_nil] at hb ⊢; omega) | (simp only [List.length_append, List.length_cons, List.length_nil]; omega))) ?_
  rintro v_ w_ ⟨rfl, C_1, rfl, hC_2⟩ -
  have hgpC_1 := gpL_1 rd bf 4
  have hstC_1 : st_15.length < 20 := by decide
  refine am_eq_r (q' := (7, [some (.ref 17), some (.int (nI v)), some (.int (nI dp)), none, none], [], wd C_1 Y og)) rfl ?_
  refine am_steps_r ok_W_putArray 3 (q' := (12, [some (.ref 17), some (.int (nI v)), some (.int (nI dp)), none, none], [.int (nI v), .ref 3], wd C_1 Y og)) rfl ?_
  refine am_callV_r (As := [.int (nI v)]) (rest := []) ok_W_putArray rfl rfl ok_V_firstOf oi_V_firstOf lk_4_137 (Or.inl ⟨_, _, _, rfl, rfl, rfl⟩) rfl rfl (Nat.le_of_ble_eq_true rfl) (v_first _ hS hC_2 (v := v) (by omega)) ?_
  rintro v_ w_ ⟨rfl, rfl⟩ -
  refine am_eq_r (q' := (15, [some (.ref 17), some (.int (nI v)), some (.int (nI dp)), none, none], [.int (C.2.1 5 v)], wd C_1 Y og)) rfl ?_
  refine am_steps_r ok_W_putArray 3 (q' := (19, [some (.ref 17), some (.int (nI v)), some (.int (nI dp)), some (.int (C.2.1 5 v)), some (.int 0)], [], wd C_1 Y og)) rfl ?_
  refine am_eq_r (q' := (19, [some (.ref 17), some (.int (nI v)), some (.int (nI dp)), some (.int (C.2.1 5 v)), some (.int (nI 0))], [], wd C_1 Y og)) rfl ?_
  obtain ⟨r1, r2, r3, r4, r5, r6, r8, r7⟩ := hS.2.1 v hv
  exact lp_W_putArray_19 d C Y og kp rd A hk hkp hr hrd hfm nv u V hS ht hg dp f hdf IH v hv ((V.2.2.1 v).length + 1) _ (V.2.2.1 v) _ 0 4 (L ++ gpL rd bf 4 ++ st_15) C_1 (by omega) hC_2 (fun a ha => ⟨r4 a ha, by have := (hg v hv).2.1 (by rw [h6]; decide) a ha; omega⟩) (r7.2 (by rw [h6]; decide)).1 (by omega) hb (fun C2 h2 => ⟨rfl, C2, rfl, by rw [wVl_6 h6]; exact h2⟩) (by omega)
set_option maxHeartbeats 4000000 in
set_option maxRecDepth 100000 in
theorem lp_W_putDictionary_p (d : Nat) (C : wd_C) (Y : wd_Y) (og : Nat → Int64) (kp rd : Nat) (A : Nat → Int32) (hk : C.1 13 = nI kp) (hkp : kp ≤ 1) (hr : C.1 14 = nI rd) (hrd : rd ≤ 1) (hfm : fm = .null ∨ fm = .ref 3000) (nv u : Nat) (V : VT) (hS : vsC C nv u V) (ht : Nat → Nat) (hg : hG nv V ht) (dp f : Nat) (hdf : dp + f = 8) (IH : ∀ (bf : Nat) (L : List Int32) (C1 : wd_C) (x : Nat), bf ≤ 5 → C1 = wE C kp A (bf, L) → x < nv → ht x + (dp + 1) ≤ 8 → (wVl rd V f (bf, L) x).2.length + 1000 < 2147483648 → am_Mt l D cA ad fm (d + 7) m_W_putValue [.ref 17, .int (nI x), .int (nI (dp + 1))] (wd C1 Y og) (wRt C Y og kp A (wVl rd V f (bf, L) x))) (v : Nat) (hv : v < nv)  : ∀ (fu : Nat) (post : Option Value → am_W → Prop) (rest : List Nat) (y : Int32) (n0 : Nat) (bf : Nat) (L : List Int32) (C1 : wd_C), (bf ≤ 5) → (C1 = wE C kp A (bf, L)) → (∀ a ∈ rest, a < nv ∧ ht a + (dp + 1) ≤ 8) → (∀ a ∈ keysOf rest, V.1 a = 4) → (lkd (C.2.1 7) y (keysOf rest)) → (hld (C.2.1 8) rest) → (2 * n0 + rest.length = (V.2.2.1 v).length) → ((wDk rd V f none 0 (bf, L) rest).2.length + 1000 < 2147483648) → (∀ C2, C2 = wE C kp A (wPc rd (wDk rd V f none 0 (bf, L) rest) 5 st_20) → post none (wd C2 Y og)) → rest.length < fu → am_Rn l D cA ad fm (d + 8) m_W_putDictionary (wd C Y og).length post (41, [some (.ref 17), some (.int (nI v)), some (.int (-1)), some (.int (nI dp)), some (.int (-1)), some (.int y), some (.int (nI n0))], [], wd C1 Y og) := by
  intro fu
  induction fu with
  | zero => intro post rest y n0 bf L C1 hbf h1 hre hk4s hlk hhl hlen hb hpo hfu; exact absurd hfu (Nat.not_lt_zero _)
  | succ fu ih =>
    intro post rest y n0 bf L C1 hbf h1 hre hk4s hlk hhl hlen hb hpo hfu
    have hnv := hS.1.2.1
    have hl3 := vsC_len hS hv
    have hbL : L.length + 1000 < 2147483648 := by have := wDk_le (rd := rd) (V := V) (f := f) (lk := none) (m := 0) _ rest (bf, L) (Nat.le_refl _); have h9 : (bf, L).2.length = L.length := rfl; omega
    refine am_steps_r ok_W_putDictionary 4 (q' := (48, [some (.ref 17), some (.int (nI v)), some (.int (-1)), some (.int (nI dp)), some (.int (-1)), some (.int y), some (.int (nI n0))], [.int (nI v), .ref 3, .int (nI n0)], wd C1 Y og)) rfl ?_
    refine am_callV_r (As := [.int (nI v)]) (rest := [.int (nI n0)]) ok_W_putDictionary rfl rfl ok_V_partsOf oi_V_partsOf lk_4_176 (Or.inl ⟨_, _, _, rfl, rfl, rfl⟩) rfl rfl (Nat.le_of_ble_eq_true rfl) (v_parts _ hS h1 (v := v) hv) ?_
    rintro v_ w_ ⟨rfl, rfl⟩ -
    refine am_eq_r (q' := (51, [some (.ref 17), some (.int (nI v)), some (.int (-1)), some (.int (nI dp)), some (.int (-1)), some (.int y), some (.int (nI n0))], [.int (nI ((V.2.2.1 v).length)), .int (nI n0)], wd C1 Y og)) rfl ?_
    refine am_steps_r ok_W_putDictionary 3 (q' := (bif decide (((nI ((V.2.2.1 v).length)) / 2) ≤ (nI n0)) then 117 else 56, [some (.ref 17), some (.int (nI v)), some (.int (-1)), some (.int (nI dp)), some (.int (-1)), some (.int y), some (.int (nI n0))], [], wd C1 Y og)) rfl ?_
    rw [show ((nI ((V.2.2.1 v).length)) / 2 : Int32) = nI (((V.2.2.1 v).length) / 2) from (nIdiv ((V.2.2.1 v).length) 2 (by omega) (by omega))]
    refine am_br_r (fun h_2 => ?_) (fun h_2 => ?_)
    · skip
      have h_2 : (((V.2.2.1 v).length) / 2) ≤ n0 := (nI_leI (show (((V.2.2.1 v).length) / 2) < 2 ^ 31 by omega) (show n0 < 2 ^ 31 by omega)).mp h_2
      obtain ⟨me, hme⟩ := hld_even hhl
      have hre0 : rest = [] := List.eq_nil_of_length_eq_zero (by omega)
      subst hre0
      refine am_steps_r ok_W_putDictionary 6 (q' := (145, [some (.ref 17), some (.int (nI v)), some (.int (-1)), some (.int (nI dp)), some (.int (-1)), some (.int y), some (.int (nI n0))], [.ref 1020, .int 5, .ref 17], wd C1 Y og)) rfl ?_
      refine am_callV_r (As := [.int 5, .ref 1020]) (rest := []) ok_W_putDictionary rfl rfl ok_W_putMark oi_W_putMark lk_4_111 (Or.inl ⟨_, _, _, rfl, rfl, rfl⟩) rfl rfl (Nat.le_of_ble_eq_true rfl) (c_W_putMark _ C Y og kp rd A hk hkp hr hrd bf L (by omega) C1 h1 5 (by omega) 20 _ _ _ st_20 rfl (by decide) hfm (by have hL9 : st_20.length < 20 := (by decide); first | omega | (simp only [List.length_append, List.length_cons, List.length_nil] at hb ⊢; omega) | (simp only [List.length_append, List.length_cons, List.length_nil]; omega))) ?_
      rintro v_ w_ ⟨rfl, C_3, rfl, hC_4⟩ -
      have hgpC_3 := gpL_1 rd bf 5
      have hstC_3 : st_20.length < 20 := by decide
      refine am_eq_r (q' := (148, [some (.ref 17), some (.int (nI v)), some (.int (-1)), some (.int (nI dp)), some (.int (-1)), some (.int y), some (.int (nI n0))], [], wd C_3 Y og)) rfl ?_
      refine am_vret_r ok_W_putDictionary rfl rfl rfl ?_
      refine hpo _ ?_
      exact hC_4
    · skip
      have h_2 : ¬ (((V.2.2.1 v).length) / 2) ≤ n0 := fun z => h_2 ((nI_leI (show (((V.2.2.1 v).length) / 2) < 2 ^ 31 by omega) (show n0 < 2 ^ 31 by omega)).mpr z)
      rcases rest with _ | ⟨k, _ | ⟨x, r⟩⟩
      · exfalso; simp at hlen; omega
      · exact absurd hhl (by simp [hld])
      obtain ⟨rfl, hy2⟩ := hlk
      obtain ⟨hk8, hhl2⟩ := hhl
      obtain ⟨hk1, hk2⟩ := hre k List.mem_cons_self
      obtain ⟨hx1, hx2⟩ := hre x (List.mem_cons_of_mem _ List.mem_cons_self)
      have hk4 := hk4s k List.mem_cons_self
      have hlen2 : 2 * (n0 + 1) + r.length = (V.2.2.1 v).length := by simp only [List.length_cons] at hlen; omega
      have hb2 := hb
      rw [wDk] at hb2
      have hnm := wVl_nm (rd := rd) (V := V) (f := f) (bf := bf) (L := L) (k := k) (by omega) hk4
      refine am_steps_r ok_W_putDictionary 3 (q' := (bif decide (8 ≤ (nI dp)) then 117 else 62, [some (.ref 17), some (.int (nI v)), some (.int (-1)), some (.int (nI dp)), some (.int (-1)), some (.int (nI k)), some (.int (nI n0))], [], wd C1 Y og)) rfl ?_
      refine am_br_r (fun h_5 => ?_) (fun h_5 => ?_)
      · skip
        have h_5 : 8 ≤ dp := (nI_leI (show 8 < 2 ^ 31 by omega) (show dp < 2 ^ 31 by omega)).mp h_5
        exfalso; omega
      · skip
        have h_5 : ¬ 8 ≤ dp := fun z => h_5 ((nI_leI (show 8 < 2 ^ 31 by omega) (show dp < 2 ^ 31 by omega)).mpr z)
        refine am_steps_r ok_W_putDictionary 2 (q' := (65, [some (.ref 17), some (.int (nI v)), some (.int (-1)), some (.int (nI dp)), some (.int (-1)), some (.int (nI k)), some (.int (nI n0))], [.int (nI k), .ref 17], wd C1 Y og)) rfl ?_
        have nm_bd : L.length + (nwL (V.2.2.2 k)).length + 100 < 2147483648 := by
          exact nmB hb2 hnm (fun z => by cases z)
        refine am_callV_r (As := [.int (nI k)]) (rest := []) ok_W_putDictionary rfl rfl ok_W_putName oi_W_putName lk_4_121 (Or.inl ⟨_, _, _, rfl, rfl, rfl⟩) rfl rfl (Nat.le_of_ble_eq_true rfl) (c_W_putName _ C Y og kp rd A hk hkp hr hrd bf L (by omega) C1 h1 hfm nv u V hS k (by omega) (by have h7 := nm_bd; omega)) ?_
        rintro v_ w_ ⟨rfl, C_6, rfl, hC_7⟩ -
        refine am_eq_r (q' := (68, [some (.ref 17), some (.int (nI v)), some (.int (-1)), some (.int (nI dp)), some (.int (-1)), some (.int (nI k)), some (.int (nI n0))], [], wd C_6 Y og)) rfl ?_
        refine am_steps_r ok_W_putDictionary 3 (q' := (bif decide ((nI k) = (-1)) then 75 else 84, [some (.ref 17), some (.int (nI v)), some (.int (-1)), some (.int (nI dp)), some (.int (-1)), some (.int (nI k)), some (.int (nI n0))], [], wd C_6 Y og)) rfl ?_
        refine am_br_r (fun h_8 => ?_) (fun h_8 => ?_)
        · skip
          exact absurd h_8 (nI_nm (show k < 2 ^ 31 by omega))
        · skip
          refine am_steps_r ok_W_putDictionary 4 (q' := (91, [some (.ref 17), some (.int (nI v)), some (.int (-1)), some (.int (nI dp)), some (.int (-1)), some (.int (nI k)), some (.int (nI n0))], [.int (nI k), .ref 3, .ref 17], wd C_6 Y og)) rfl ?_
          refine am_callV_r (As := [.int (nI k)]) (rest := [.ref 17]) ok_W_putDictionary rfl rfl ok_V_heldBy oi_V_heldBy lk_4_192 (Or.inl ⟨_, _, _, rfl, rfl, rfl⟩) rfl rfl (Nat.le_of_ble_eq_true rfl) (v_held _ hS hC_7 (v := k) (by omega)) ?_
          rintro v_ w_ ⟨rfl, rfl⟩ -
          rw [hk8]
          refine am_eq_r (q' := (94, [some (.ref 17), some (.int (nI v)), some (.int (-1)), some (.int (nI dp)), some (.int (-1)), some (.int (nI k)), some (.int (nI n0))], [.int (nI x), .ref 17], wd C_6 Y og)) rfl ?_
          refine am_steps_r ok_W_putDictionary 3 (q' := (97, [some (.ref 17), some (.int (nI v)), some (.int (-1)), some (.int (nI dp)), some (.int (-1)), some (.int (nI k)), some (.int (nI n0))], [.int ((nI dp) + 1), .int (nI x), .ref 17], wd C_6 Y og)) rfl ?_
          rw [show ((nI dp) + 1 : Int32) = nI (dp + 1) from nI_add dp 1]
          have hb3 : (wDk rd V f none 0 (wVl rd V f (wVl rd V f (bf, L) k) x) r).2.length + 1000 < 2147483648 := by rw [if_neg (by simp)] at hb2; exact hb2
          have hlb : (wVl rd V f (2, (L ++ gpL rd bf 2 ++ (47 :: nwL (V.2.2.2 k)))) x).2.length + 1000 < 2147483648 := by have q := wDk_le (rd := rd) (V := V) (f := f) (lk := none) (m := 0) _ r (wVl rd V f (wVl rd V f (bf, L) k) x) (Nat.le_refl _); rw [hnm] at q hb3; omega
          refine am_callV_r (As := [.int (nI x), .int (nI (dp + 1))]) (rest := []) ok_W_putDictionary rfl rfl ok_W_putValue oi_W_putValue lk_4_44 (Or.inl ⟨_, _, _, rfl, rfl, rfl⟩) rfl rfl (Nat.le_of_ble_eq_true rfl) (IH 2 (L ++ gpL rd bf 2 ++ (47 :: nwL (V.2.2.2 k))) C_6 x (by omega) hC_7 (by omega) (by omega) hlb) ?_
          rintro v_ w_ ⟨rfl, C_9, rfl, hC_10⟩ -
          have hbbn_11 : (wVl rd V f (2, (L ++ gpL rd bf 2 ++ (47 :: nwL (V.2.2.2 k)))) x).1 ≤ 5 := wVl_bf f _ _ (show 2 ≤ 5 by omega)
          obtain ⟨bn_11, Ln_11, hsn_11⟩ : ∃ b_ L_, wVl rd V f (2, (L ++ gpL rd bf 2 ++ (47 :: nwL (V.2.2.2 k)))) x = (b_, L_) := ⟨_, _, rfl⟩
          rw [hsn_11] at hC_10 hbbn_11
          have hb5n_11 : bn_11 ≤ 5 := hbbn_11
          refine am_eq_r (q' := (100, [some (.ref 17), some (.int (nI v)), some (.int (-1)), some (.int (nI dp)), some (.int (-1)), some (.int (nI k)), some (.int (nI n0))], [], wd C_9 Y og)) rfl ?_
          refine am_steps_r ok_W_putDictionary 3 (q' := (106, [some (.ref 17), some (.int (nI v)), some (.int (-1)), some (.int (nI dp)), some (.int (-1)), some (.int (nI k)), some (.int (nI n0))], [.int (nI k), .ref 3], wd C_9 Y og)) rfl ?_
          refine am_callV_r (As := [.int (nI k)]) (rest := []) ok_W_putDictionary rfl rfl ok_V_nextOf oi_V_nextOf lk_4_179 (Or.inl ⟨_, _, _, rfl, rfl, rfl⟩) rfl rfl (Nat.le_of_ble_eq_true rfl) (v_next _ hS hC_10 (v := k) (by omega)) ?_
          rintro v_ w_ ⟨rfl, rfl⟩ -
          refine am_eq_r (q' := (109, [some (.ref 17), some (.int (nI v)), some (.int (-1)), some (.int (nI dp)), some (.int (-1)), some (.int (nI k)), some (.int (nI n0))], [.int (C.2.1 7 k)], wd C_9 Y og)) rfl ?_
          refine am_steps_r ok_W_putDictionary 3 (q' := (41, [some (.ref 17), some (.int (nI v)), some (.int (-1)), some (.int (nI dp)), some (.int (-1)), some (.int (C.2.1 7 k)), some (.int ((nI n0) + 1))], [], wd C_9 Y og)) rfl ?_
          rw [show ((nI n0) + 1 : Int32) = nI (n0 + 1) from nI_add n0 1]
          exact ih post r (C.2.1 7 k) (n0 + 1) bn_11 Ln_11 C_9 (by omega) hC_10 (fun z hz => hre z (List.mem_cons_of_mem _ (List.mem_cons_of_mem _ hz))) (fun z hz => hk4s z (List.mem_cons_of_mem _ hz)) hy2 hhl2 hlen2 (by rw [hnm, hsn_11] at hb3; exact hb3) (by rw [wDk, if_neg (by simp), hnm, hsn_11] at hpo; exact hpo) (by simp only [List.length_cons] at hfu; omega)
set_option maxHeartbeats 4000000 in
set_option maxRecDepth 100000 in
theorem lp_W_putDictionary_n (d : Nat) (C : wd_C) (Y : wd_Y) (og : Nat → Int64) (kp rd : Nat) (A : Nat → Int32) (hk : C.1 13 = nI kp) (hkp : kp ≤ 1) (hr : C.1 14 = nI rd) (hrd : rd ≤ 1) (hfm : fm = .null ∨ fm = .ref 3000) (nv u : Nat) (V : VT) (hS : vsC C nv u V) (ht : Nat → Nat) (hg : hG nv V ht) (dp f : Nat) (hdf : dp + f = 8) (IH : ∀ (bf : Nat) (L : List Int32) (C1 : wd_C) (x : Nat), bf ≤ 5 → C1 = wE C kp A (bf, L) → x < nv → ht x + (dp + 1) ≤ 8 → (wVl rd V f (bf, L) x).2.length + 1000 < 2147483648 → am_Mt l D cA ad fm (d + 7) m_W_putValue [.ref 17, .int (nI x), .int (nI (dp + 1))] (wd C1 Y og) (wRt C Y og kp A (wVl rd V f (bf, L) x))) (v : Nat) (hv : v < nv) (m : Nat) (hm : m < 1000000)  : ∀ (fu : Nat) (post : Option Value → am_W → Prop) (rest : List Nat) (y : Int32) (n0 : Nat) (bf : Nat) (L : List Int32) (C1 : wd_C), (bf ≤ 5) → (C1 = wE C kp A (bf, L)) → (∀ a ∈ rest, a < nv ∧ ht a + (dp + 1) ≤ 8) → (∀ a ∈ keysOf rest, V.1 a = 4) → (lkd (C.2.1 7) y (keysOf rest)) → (hld (C.2.1 8) rest) → (2 * n0 + rest.length = (V.2.2.1 v).length) → ((wDk rd V f none m (bf, L) rest).2.length + 1000 < 2147483648) → (∀ C2, C2 = wE C kp A (wPc rd (wLn rd (wDk rd V f none m (bf, L) rest) m) 5 st_20) → post none (wd C2 Y og)) → rest.length < fu → am_Rn l D cA ad fm (d + 8) m_W_putDictionary (wd C Y og).length post (41, [some (.ref 17), some (.int (nI v)), some (.int (nI m)), some (.int (nI dp)), some (.int (-1)), some (.int y), some (.int (nI n0))], [], wd C1 Y og) := by
  intro fu
  induction fu with
  | zero => intro post rest y n0 bf L C1 hbf h1 hre hk4s hlk hhl hlen hb hpo hfu; exact absurd hfu (Nat.not_lt_zero _)
  | succ fu ih =>
    intro post rest y n0 bf L C1 hbf h1 hre hk4s hlk hhl hlen hb hpo hfu
    have hnv := hS.1.2.1
    have hl3 := vsC_len hS hv
    have hbL : L.length + 1000 < 2147483648 := by have := wDk_le (rd := rd) (V := V) (f := f) (lk := none) (m := m) _ rest (bf, L) (Nat.le_refl _); have h9 : (bf, L).2.length = L.length := rfl; omega
    have hm9 := fgL_len m
    refine am_steps_r ok_W_putDictionary 4 (q' := (48, [some (.ref 17), some (.int (nI v)), some (.int (nI m)), some (.int (nI dp)), some (.int (-1)), some (.int y), some (.int (nI n0))], [.int (nI v), .ref 3, .int (nI n0)], wd C1 Y og)) rfl ?_
    refine am_callV_r (As := [.int (nI v)]) (rest := [.int (nI n0)]) ok_W_putDictionary rfl rfl ok_V_partsOf oi_V_partsOf lk_4_176 (Or.inl ⟨_, _, _, rfl, rfl, rfl⟩) rfl rfl (Nat.le_of_ble_eq_true rfl) (v_parts _ hS h1 (v := v) hv) ?_
    rintro v_ w_ ⟨rfl, rfl⟩ -
    refine am_eq_r (q' := (51, [some (.ref 17), some (.int (nI v)), some (.int (nI m)), some (.int (nI dp)), some (.int (-1)), some (.int y), some (.int (nI n0))], [.int (nI ((V.2.2.1 v).length)), .int (nI n0)], wd C1 Y og)) rfl ?_
    refine am_steps_r ok_W_putDictionary 3 (q' := (bif decide (((nI ((V.2.2.1 v).length)) / 2) ≤ (nI n0)) then 117 else 56, [some (.ref 17), some (.int (nI v)), some (.int (nI m)), some (.int (nI dp)), some (.int (-1)), some (.int y), some (.int (nI n0))], [], wd C1 Y og)) rfl ?_
    rw [show ((nI ((V.2.2.1 v).length)) / 2 : Int32) = nI (((V.2.2.1 v).length) / 2) from (nIdiv ((V.2.2.1 v).length) 2 (by omega) (by omega))]
    refine am_br_r (fun h_2 => ?_) (fun h_2 => ?_)
    · skip
      have h_2 : (((V.2.2.1 v).length) / 2) ≤ n0 := (nI_leI (show (((V.2.2.1 v).length) / 2) < 2 ^ 31 by omega) (show n0 < 2 ^ 31 by omega)).mp h_2
      obtain ⟨me, hme⟩ := hld_even hhl
      have hre0 : rest = [] := List.eq_nil_of_length_eq_zero (by omega)
      subst hre0
      refine am_steps_r ok_W_putDictionary 3 (q' := (bif decide ((nI m) = (-1)) then 141 else 122, [some (.ref 17), some (.int (nI v)), some (.int (nI m)), some (.int (nI dp)), some (.int (-1)), some (.int y), some (.int (nI n0))], [], wd C1 Y og)) rfl ?_
      refine am_br_r (fun h_3 => ?_) (fun h_3 => ?_)
      · skip
        exact absurd h_3 (nI_nm (show m < 2 ^ 31 by omega))
      · skip
        refine am_steps_r ok_W_putDictionary 6 (q' := (132, [some (.ref 17), some (.int (nI v)), some (.int (nI m)), some (.int (nI dp)), some (.int (-1)), some (.int y), some (.int (nI n0))], [.ref 1019, .int 2, .ref 17], wd C1 Y og)) rfl ?_
        refine am_callV_r (As := [.int 2, .ref 1019]) (rest := []) ok_W_putDictionary rfl rfl ok_W_putMark oi_W_putMark lk_4_111 (Or.inl ⟨_, _, _, rfl, rfl, rfl⟩) rfl rfl (Nat.le_of_ble_eq_true rfl) (c_W_putMark _ C Y og kp rd A hk hkp hr hrd bf L (by omega) C1 h1 2 (by omega) 19 _ _ _ st_19 rfl (by decide) hfm (by have hL9 : st_19.length < 20 := (by decide); first | omega | (simp only [List.length_append, List.length_cons, List.length_nil] at hb ⊢; omega) | (simp only [List.length_append, List.length_cons, List.length_nil]; omega))) ?_
        rintro v_ w_ ⟨rfl, C_4, rfl, hC_5⟩ -
        have hgpC_4 := gpL_1 rd bf 2
        have hstC_4 : st_19.length < 20 := by decide
        refine am_eq_r (q' := (135, [some (.ref 17), some (.int (nI v)), some (.int (nI m)), some (.int (nI dp)), some (.int (-1)), some (.int y), some (.int (nI n0))], [], wd C_4 Y og)) rfl ?_
        refine am_steps_r ok_W_putDictionary 3 (q' := (138, [some (.ref 17), some (.int (nI v)), some (.int (nI m)), some (.int (nI dp)), some (.int (-1)), some (.int y), some (.int (nI n0))], [.long ((nI m).toInt64), .ref 17], wd C_4 Y og)) rfl ?_
        rw [show ((nI m).toInt64 : Int64) = lN m from nIl m (by omega)]
        have hfl : (fgL m).length + (L ++ gpL rd bf 2 ++ st_19).length + 200 < 2147483648 := by
          have q4 := gpL_1 rd bf 2
          simp only [List.length_append, show st_19.length = 7 from rfl]
          have := hm9
          omega
        have hpn := c_W_putWhole (l := l) (D := D) (cA := cA) (ad := ad) (fm := fm) (d + 5) C Y og kp rd A hk hkp hr hrd 2 (L ++ gpL rd bf 2 ++ st_19) (by omega) C_4 hC_5 (lN m) (by rw [(is_lN (by omega)).2]; omega) (by rw [(is_lN (by omega)).2]; omega)
        rw [wnL_m (by omega)] at hpn
        refine am_callV_r (As := [.long (lN m)]) (rest := []) ok_W_putDictionary rfl rfl ok_W_putWhole oi_W_putWhole lk_4_115 (Or.inl ⟨_, _, _, rfl, rfl, rfl⟩) rfl rfl (Nat.le_of_ble_eq_true rfl) hpn ?_
        rintro v_ w_ ⟨rfl, C_6, rfl, hC_7⟩ -
        have hgqC_6 := gpL_1 rd 2 1
        refine am_eq_r (q' := (141, [some (.ref 17), some (.int (nI v)), some (.int (nI m)), some (.int (nI dp)), some (.int (-1)), some (.int y), some (.int (nI n0))], [], wd C_6 Y og)) rfl ?_
        refine am_steps_r ok_W_putDictionary 3 (q' := (145, [some (.ref 17), some (.int (nI v)), some (.int (nI m)), some (.int (nI dp)), some (.int (-1)), some (.int y), some (.int (nI n0))], [.ref 1020, .int 5, .ref 17], wd C_6 Y og)) rfl ?_
        refine am_callV_r (As := [.int 5, .ref 1020]) (rest := []) ok_W_putDictionary rfl rfl ok_W_putMark oi_W_putMark lk_4_111 (Or.inl ⟨_, _, _, rfl, rfl, rfl⟩) rfl rfl (Nat.le_of_ble_eq_true rfl) (c_W_putMark _ C Y og kp rd A hk hkp hr hrd 1 ((L ++ gpL rd bf 2 ++ st_19) ++ gpL rd 2 1 ++ fgL m) (by omega) C_6 hC_7 5 (by omega) 20 _ _ _ st_20 rfl (by decide) hfm (by have hL9 : st_20.length < 20 := (by decide); first | omega | (simp only [List.length_append, List.length_cons, List.length_nil] at hb ⊢; omega) | (simp only [List.length_append, List.length_cons, List.length_nil]; omega))) ?_
        rintro v_ w_ ⟨rfl, C_8, rfl, hC_9⟩ -
        have hgpC_8 := gpL_1 rd 1 5
        have hstC_8 : st_20.length < 20 := by decide
        refine am_eq_r (q' := (148, [some (.ref 17), some (.int (nI v)), some (.int (nI m)), some (.int (nI dp)), some (.int (-1)), some (.int y), some (.int (nI n0))], [], wd C_8 Y og)) rfl ?_
        refine am_vret_r ok_W_putDictionary rfl rfl rfl ?_
        refine hpo _ ?_
        exact hC_9
    · skip
      have h_2 : ¬ (((V.2.2.1 v).length) / 2) ≤ n0 := fun z => h_2 ((nI_leI (show (((V.2.2.1 v).length) / 2) < 2 ^ 31 by omega) (show n0 < 2 ^ 31 by omega)).mpr z)
      rcases rest with _ | ⟨k, _ | ⟨x, r⟩⟩
      · exfalso; simp at hlen; omega
      · exact absurd hhl (by simp [hld])
      obtain ⟨rfl, hy2⟩ := hlk
      obtain ⟨hk8, hhl2⟩ := hhl
      obtain ⟨hk1, hk2⟩ := hre k List.mem_cons_self
      obtain ⟨hx1, hx2⟩ := hre x (List.mem_cons_of_mem _ List.mem_cons_self)
      have hk4 := hk4s k List.mem_cons_self
      have hlen2 : 2 * (n0 + 1) + r.length = (V.2.2.1 v).length := by simp only [List.length_cons] at hlen; omega
      have hb2 := hb
      rw [wDk] at hb2
      have hnm := wVl_nm (rd := rd) (V := V) (f := f) (bf := bf) (L := L) (k := k) (by omega) hk4
      refine am_steps_r ok_W_putDictionary 3 (q' := (bif decide (8 ≤ (nI dp)) then 117 else 62, [some (.ref 17), some (.int (nI v)), some (.int (nI m)), some (.int (nI dp)), some (.int (-1)), some (.int (nI k)), some (.int (nI n0))], [], wd C1 Y og)) rfl ?_
      refine am_br_r (fun h_10 => ?_) (fun h_10 => ?_)
      · skip
        have h_10 : 8 ≤ dp := (nI_leI (show 8 < 2 ^ 31 by omega) (show dp < 2 ^ 31 by omega)).mp h_10
        exfalso; omega
      · skip
        have h_10 : ¬ 8 ≤ dp := fun z => h_10 ((nI_leI (show 8 < 2 ^ 31 by omega) (show dp < 2 ^ 31 by omega)).mpr z)
        refine am_steps_r ok_W_putDictionary 2 (q' := (65, [some (.ref 17), some (.int (nI v)), some (.int (nI m)), some (.int (nI dp)), some (.int (-1)), some (.int (nI k)), some (.int (nI n0))], [.int (nI k), .ref 17], wd C1 Y og)) rfl ?_
        have nm_bd : L.length + (nwL (V.2.2.2 k)).length + 100 < 2147483648 := by
          exact nmB hb2 hnm (fun z => by cases z)
        refine am_callV_r (As := [.int (nI k)]) (rest := []) ok_W_putDictionary rfl rfl ok_W_putName oi_W_putName lk_4_121 (Or.inl ⟨_, _, _, rfl, rfl, rfl⟩) rfl rfl (Nat.le_of_ble_eq_true rfl) (c_W_putName _ C Y og kp rd A hk hkp hr hrd bf L (by omega) C1 h1 hfm nv u V hS k (by omega) (by have h7 := nm_bd; omega)) ?_
        rintro v_ w_ ⟨rfl, C_11, rfl, hC_12⟩ -
        refine am_eq_r (q' := (68, [some (.ref 17), some (.int (nI v)), some (.int (nI m)), some (.int (nI dp)), some (.int (-1)), some (.int (nI k)), some (.int (nI n0))], [], wd C_11 Y og)) rfl ?_
        refine am_steps_r ok_W_putDictionary 3 (q' := (bif decide ((nI k) = (-1)) then 75 else 84, [some (.ref 17), some (.int (nI v)), some (.int (nI m)), some (.int (nI dp)), some (.int (-1)), some (.int (nI k)), some (.int (nI n0))], [], wd C_11 Y og)) rfl ?_
        refine am_br_r (fun h_13 => ?_) (fun h_13 => ?_)
        · skip
          exact absurd h_13 (nI_nm (show k < 2 ^ 31 by omega))
        · skip
          refine am_steps_r ok_W_putDictionary 4 (q' := (91, [some (.ref 17), some (.int (nI v)), some (.int (nI m)), some (.int (nI dp)), some (.int (-1)), some (.int (nI k)), some (.int (nI n0))], [.int (nI k), .ref 3, .ref 17], wd C_11 Y og)) rfl ?_
          refine am_callV_r (As := [.int (nI k)]) (rest := [.ref 17]) ok_W_putDictionary rfl rfl ok_V_heldBy oi_V_heldBy lk_4_192 (Or.inl ⟨_, _, _, rfl, rfl, rfl⟩) rfl rfl (Nat.le_of_ble_eq_true rfl) (v_held _ hS hC_12 (v := k) (by omega)) ?_
          rintro v_ w_ ⟨rfl, rfl⟩ -
          rw [hk8]
          refine am_eq_r (q' := (94, [some (.ref 17), some (.int (nI v)), some (.int (nI m)), some (.int (nI dp)), some (.int (-1)), some (.int (nI k)), some (.int (nI n0))], [.int (nI x), .ref 17], wd C_11 Y og)) rfl ?_
          refine am_steps_r ok_W_putDictionary 3 (q' := (97, [some (.ref 17), some (.int (nI v)), some (.int (nI m)), some (.int (nI dp)), some (.int (-1)), some (.int (nI k)), some (.int (nI n0))], [.int ((nI dp) + 1), .int (nI x), .ref 17], wd C_11 Y og)) rfl ?_
          rw [show ((nI dp) + 1 : Int32) = nI (dp + 1) from nI_add dp 1]
          have hb3 : (wDk rd V f none m (wVl rd V f (wVl rd V f (bf, L) k) x) r).2.length + 1000 < 2147483648 := by rw [if_neg (by simp)] at hb2; exact hb2
          have hlb : (wVl rd V f (2, (L ++ gpL rd bf 2 ++ (47 :: nwL (V.2.2.2 k)))) x).2.length + 1000 < 2147483648 := by have q := wDk_le (rd := rd) (V := V) (f := f) (lk := none) (m := m) _ r (wVl rd V f (wVl rd V f (bf, L) k) x) (Nat.le_refl _); rw [hnm] at q hb3; omega
          refine am_callV_r (As := [.int (nI x), .int (nI (dp + 1))]) (rest := []) ok_W_putDictionary rfl rfl ok_W_putValue oi_W_putValue lk_4_44 (Or.inl ⟨_, _, _, rfl, rfl, rfl⟩) rfl rfl (Nat.le_of_ble_eq_true rfl) (IH 2 (L ++ gpL rd bf 2 ++ (47 :: nwL (V.2.2.2 k))) C_11 x (by omega) hC_12 (by omega) (by omega) hlb) ?_
          rintro v_ w_ ⟨rfl, C_14, rfl, hC_15⟩ -
          have hbbn_16 : (wVl rd V f (2, (L ++ gpL rd bf 2 ++ (47 :: nwL (V.2.2.2 k)))) x).1 ≤ 5 := wVl_bf f _ _ (show 2 ≤ 5 by omega)
          obtain ⟨bn_16, Ln_16, hsn_16⟩ : ∃ b_ L_, wVl rd V f (2, (L ++ gpL rd bf 2 ++ (47 :: nwL (V.2.2.2 k)))) x = (b_, L_) := ⟨_, _, rfl⟩
          rw [hsn_16] at hC_15 hbbn_16
          have hb5n_16 : bn_16 ≤ 5 := hbbn_16
          refine am_eq_r (q' := (100, [some (.ref 17), some (.int (nI v)), some (.int (nI m)), some (.int (nI dp)), some (.int (-1)), some (.int (nI k)), some (.int (nI n0))], [], wd C_14 Y og)) rfl ?_
          refine am_steps_r ok_W_putDictionary 3 (q' := (106, [some (.ref 17), some (.int (nI v)), some (.int (nI m)), some (.int (nI dp)), some (.int (-1)), some (.int (nI k)), some (.int (nI n0))], [.int (nI k), .ref 3], wd C_14 Y og)) rfl ?_
          refine am_callV_r (As := [.int (nI k)]) (rest := []) ok_W_putDictionary rfl rfl ok_V_nextOf oi_V_nextOf lk_4_179 (Or.inl ⟨_, _, _, rfl, rfl, rfl⟩) rfl rfl (Nat.le_of_ble_eq_true rfl) (v_next _ hS hC_15 (v := k) (by omega)) ?_
          rintro v_ w_ ⟨rfl, rfl⟩ -
          refine am_eq_r (q' := (109, [some (.ref 17), some (.int (nI v)), some (.int (nI m)), some (.int (nI dp)), some (.int (-1)), some (.int (nI k)), some (.int (nI n0))], [.int (C.2.1 7 k)], wd C_14 Y og)) rfl ?_
          refine am_steps_r ok_W_putDictionary 3 (q' := (41, [some (.ref 17), some (.int (nI v)), some (.int (nI m)), some (.int (nI dp)), some (.int (-1)), some (.int (C.2.1 7 k)), some (.int ((nI n0) + 1))], [], wd C_14 Y og)) rfl ?_
          rw [show ((nI n0) + 1 : Int32) = nI (n0 + 1) from nI_add n0 1]
          exact ih post r (C.2.1 7 k) (n0 + 1) bn_16 Ln_16 C_14 (by omega) hC_15 (fun z hz => hre z (List.mem_cons_of_mem _ (List.mem_cons_of_mem _ hz))) (fun z hz => hk4s z (List.mem_cons_of_mem _ hz)) hy2 hhl2 hlen2 (by rw [hnm, hsn_16] at hb3; exact hb3) (by rw [wDk, if_neg (by simp), hnm, hsn_16] at hpo; exact hpo) (by simp only [List.length_cons] at hfu; omega)
set_option maxHeartbeats 4000000 in
set_option maxRecDepth 100000 in
theorem lp_W_putDictionary_t (d : Nat) (C : wd_C) (Y : wd_Y) (og : Nat → Int64) (kp rd : Nat) (A : Nat → Int32) (hk : C.1 13 = nI kp) (hkp : kp ≤ 1) (hr : C.1 14 = nI rd) (hrd : rd ≤ 1) (hfm : fm = .null ∨ fm = .ref 3000) (nv u : Nat) (V : VT) (hS : vsC C nv u V) (ht : Nat → Nat) (hg : hG nv V ht) (dp f : Nat) (hdf : dp + f = 8) (IH : ∀ (bf : Nat) (L : List Int32) (C1 : wd_C) (x : Nat), bf ≤ 5 → C1 = wE C kp A (bf, L) → x < nv → ht x + (dp + 1) ≤ 8 → (wVl rd V f (bf, L) x).2.length + 1000 < 2147483648 → am_Mt l D cA ad fm (d + 7) m_W_putValue [.ref 17, .int (nI x), .int (nI (dp + 1))] (wd C1 Y og) (wRt C Y og kp A (wVl rd V f (bf, L) x))) (v : Nat) (hv : v < nv) (m : Nat) (hm : m < 1000000) (t : Nat) (ht9 : t < nv) (hk8s : ∀ k, t = k → V.2.2.2 k = st_8)  : ∀ (fu : Nat) (post : Option Value → am_W → Prop) (rest : List Nat) (y : Int32) (n0 : Nat) (bf : Nat) (L : List Int32) (C1 : wd_C), (bf ≤ 5) → (C1 = wE C kp A (bf, L)) → (∀ a ∈ rest, a < nv ∧ ht a + (dp + 1) ≤ 8) → (∀ a ∈ keysOf rest, V.1 a = 4) → (lkd (C.2.1 7) y (keysOf rest)) → (hld (C.2.1 8) rest) → (2 * n0 + rest.length = (V.2.2.1 v).length) → ((wDk rd V f (some t) m (bf, L) rest).2.length + 1000 < 2147483648) → (∀ C2, C2 = wE C kp A (wPc rd (wDk rd V f (some t) m (bf, L) rest) 5 st_20) → post none (wd C2 Y og)) → rest.length < fu → am_Rn l D cA ad fm (d + 8) m_W_putDictionary (wd C Y og).length post (41, [some (.ref 17), some (.int (nI v)), some (.int (nI m)), some (.int (nI dp)), some (.int (nI t)), some (.int y), some (.int (nI n0))], [], wd C1 Y og) := by
  intro fu
  induction fu with
  | zero => intro post rest y n0 bf L C1 hbf h1 hre hk4s hlk hhl hlen hb hpo hfu; exact absurd hfu (Nat.not_lt_zero _)
  | succ fu ih =>
    intro post rest y n0 bf L C1 hbf h1 hre hk4s hlk hhl hlen hb hpo hfu
    have hnv := hS.1.2.1
    have hl3 := vsC_len hS hv
    have hbL : L.length + 1000 < 2147483648 := by have := wDk_le (rd := rd) (V := V) (f := f) (lk := some t) (m := m) _ rest (bf, L) (Nat.le_refl _); have h9 : (bf, L).2.length = L.length := rfl; omega
    have hm9 := fgL_len m
    refine am_steps_r ok_W_putDictionary 4 (q' := (48, [some (.ref 17), some (.int (nI v)), some (.int (nI m)), some (.int (nI dp)), some (.int (nI t)), some (.int y), some (.int (nI n0))], [.int (nI v), .ref 3, .int (nI n0)], wd C1 Y og)) rfl ?_
    refine am_callV_r (As := [.int (nI v)]) (rest := [.int (nI n0)]) ok_W_putDictionary rfl rfl ok_V_partsOf oi_V_partsOf lk_4_176 (Or.inl ⟨_, _, _, rfl, rfl, rfl⟩) rfl rfl (Nat.le_of_ble_eq_true rfl) (v_parts _ hS h1 (v := v) hv) ?_
    rintro v_ w_ ⟨rfl, rfl⟩ -
    refine am_eq_r (q' := (51, [some (.ref 17), some (.int (nI v)), some (.int (nI m)), some (.int (nI dp)), some (.int (nI t)), some (.int y), some (.int (nI n0))], [.int (nI ((V.2.2.1 v).length)), .int (nI n0)], wd C1 Y og)) rfl ?_
    refine am_steps_r ok_W_putDictionary 3 (q' := (bif decide (((nI ((V.2.2.1 v).length)) / 2) ≤ (nI n0)) then 117 else 56, [some (.ref 17), some (.int (nI v)), some (.int (nI m)), some (.int (nI dp)), some (.int (nI t)), some (.int y), some (.int (nI n0))], [], wd C1 Y og)) rfl ?_
    rw [show ((nI ((V.2.2.1 v).length)) / 2 : Int32) = nI (((V.2.2.1 v).length) / 2) from (nIdiv ((V.2.2.1 v).length) 2 (by omega) (by omega))]
    refine am_br_r (fun h_2 => ?_) (fun h_2 => ?_)
    · skip
      have h_2 : (((V.2.2.1 v).length) / 2) ≤ n0 := (nI_leI (show (((V.2.2.1 v).length) / 2) < 2 ^ 31 by omega) (show n0 < 2 ^ 31 by omega)).mp h_2
      obtain ⟨me, hme⟩ := hld_even hhl
      have hre0 : rest = [] := List.eq_nil_of_length_eq_zero (by omega)
      subst hre0
      refine am_steps_r ok_W_putDictionary 3 (q' := (bif decide ((nI m) = (-1)) then 141 else 122, [some (.ref 17), some (.int (nI v)), some (.int (nI m)), some (.int (nI dp)), some (.int (nI t)), some (.int y), some (.int (nI n0))], [], wd C1 Y og)) rfl ?_
      refine am_br_r (fun h_3 => ?_) (fun h_3 => ?_)
      · skip
        exact absurd h_3 (nI_nm (show m < 2 ^ 31 by omega))
      · skip
        refine am_steps_r ok_W_putDictionary 3 (q' := (bif decide ((nI t) = (-1)) then 128 else 141, [some (.ref 17), some (.int (nI v)), some (.int (nI m)), some (.int (nI dp)), some (.int (nI t)), some (.int y), some (.int (nI n0))], [], wd C1 Y og)) rfl ?_
        refine am_br_r (fun h_4 => ?_) (fun h_4 => ?_)
        · skip
          exact absurd h_4 (nI_nm (show t < 2 ^ 31 by omega))
        · skip
          refine am_steps_r ok_W_putDictionary 3 (q' := (145, [some (.ref 17), some (.int (nI v)), some (.int (nI m)), some (.int (nI dp)), some (.int (nI t)), some (.int y), some (.int (nI n0))], [.ref 1020, .int 5, .ref 17], wd C1 Y og)) rfl ?_
          refine am_callV_r (As := [.int 5, .ref 1020]) (rest := []) ok_W_putDictionary rfl rfl ok_W_putMark oi_W_putMark lk_4_111 (Or.inl ⟨_, _, _, rfl, rfl, rfl⟩) rfl rfl (Nat.le_of_ble_eq_true rfl) (c_W_putMark _ C Y og kp rd A hk hkp hr hrd bf L (by omega) C1 h1 5 (by omega) 20 _ _ _ st_20 rfl (by decide) hfm (by have hL9 : st_20.length < 20 := (by decide); first | omega | (simp only [List.length_append, List.length_cons, List.length_nil] at hb ⊢; omega) | (simp only [List.length_append, List.length_cons, List.length_nil]; omega))) ?_
          rintro v_ w_ ⟨rfl, C_5, rfl, hC_6⟩ -
          have hgpC_5 := gpL_1 rd bf 5
          have hstC_5 : st_20.length < 20 := by decide
          refine am_eq_r (q' := (148, [some (.ref 17), some (.int (nI v)), some (.int (nI m)), some (.int (nI dp)), some (.int (nI t)), some (.int y), some (.int (nI n0))], [], wd C_5 Y og)) rfl ?_
          refine am_vret_r ok_W_putDictionary rfl rfl rfl ?_
          refine hpo _ ?_
          exact hC_6
    · skip
      have h_2 : ¬ (((V.2.2.1 v).length) / 2) ≤ n0 := fun z => h_2 ((nI_leI (show (((V.2.2.1 v).length) / 2) < 2 ^ 31 by omega) (show n0 < 2 ^ 31 by omega)).mpr z)
      rcases rest with _ | ⟨k, _ | ⟨x, r⟩⟩
      · exfalso; simp at hlen; omega
      · exact absurd hhl (by simp [hld])
      obtain ⟨rfl, hy2⟩ := hlk
      obtain ⟨hk8, hhl2⟩ := hhl
      obtain ⟨hk1, hk2⟩ := hre k List.mem_cons_self
      obtain ⟨hx1, hx2⟩ := hre x (List.mem_cons_of_mem _ List.mem_cons_self)
      have hk4 := hk4s k List.mem_cons_self
      have hlen2 : 2 * (n0 + 1) + r.length = (V.2.2.1 v).length := by simp only [List.length_cons] at hlen; omega
      have hb2 := hb
      rw [wDk] at hb2
      have hnm := wVl_nm (rd := rd) (V := V) (f := f) (bf := bf) (L := L) (k := k) (by omega) hk4
      refine am_steps_r ok_W_putDictionary 3 (q' := (bif decide (8 ≤ (nI dp)) then 117 else 62, [some (.ref 17), some (.int (nI v)), some (.int (nI m)), some (.int (nI dp)), some (.int (nI t)), some (.int (nI k)), some (.int (nI n0))], [], wd C1 Y og)) rfl ?_
      refine am_br_r (fun h_7 => ?_) (fun h_7 => ?_)
      · skip
        have h_7 : 8 ≤ dp := (nI_leI (show 8 < 2 ^ 31 by omega) (show dp < 2 ^ 31 by omega)).mp h_7
        exfalso; omega
      · skip
        have h_7 : ¬ 8 ≤ dp := fun z => h_7 ((nI_leI (show 8 < 2 ^ 31 by omega) (show dp < 2 ^ 31 by omega)).mpr z)
        refine am_steps_r ok_W_putDictionary 2 (q' := (65, [some (.ref 17), some (.int (nI v)), some (.int (nI m)), some (.int (nI dp)), some (.int (nI t)), some (.int (nI k)), some (.int (nI n0))], [.int (nI k), .ref 17], wd C1 Y og)) rfl ?_
        have nm_bd : L.length + (nwL (V.2.2.2 k)).length + 100 < 2147483648 := by
          exact nmB hb2 hnm (fun z => hk8s k (Option.some.inj z))
        refine am_callV_r (As := [.int (nI k)]) (rest := []) ok_W_putDictionary rfl rfl ok_W_putName oi_W_putName lk_4_121 (Or.inl ⟨_, _, _, rfl, rfl, rfl⟩) rfl rfl (Nat.le_of_ble_eq_true rfl) (c_W_putName _ C Y og kp rd A hk hkp hr hrd bf L (by omega) C1 h1 hfm nv u V hS k (by omega) (by have h7 := nm_bd; omega)) ?_
        rintro v_ w_ ⟨rfl, C_8, rfl, hC_9⟩ -
        refine am_eq_r (q' := (68, [some (.ref 17), some (.int (nI v)), some (.int (nI m)), some (.int (nI dp)), some (.int (nI t)), some (.int (nI k)), some (.int (nI n0))], [], wd C_8 Y og)) rfl ?_
        refine am_steps_r ok_W_putDictionary 3 (q' := (bif decide ((nI k) = (nI t)) then 75 else 84, [some (.ref 17), some (.int (nI v)), some (.int (nI m)), some (.int (nI dp)), some (.int (nI t)), some (.int (nI k)), some (.int (nI n0))], [], wd C_8 Y og)) rfl ?_
        refine am_br_r (fun h_10 => ?_) (fun h_10 => ?_)
        · skip
          have h_10 : k = t := (nI_eq (show k < 2 ^ 31 by omega) (show t < 2 ^ 31 by omega)).mp h_10
          have hkt : some t = some k := by rw [h_10]
          rw [if_pos hkt] at hb2
          refine am_steps_r ok_W_putDictionary 3 (q' := (78, [some (.ref 17), some (.int (nI v)), some (.int (nI m)), some (.int (nI dp)), some (.int (nI t)), some (.int (nI k)), some (.int (nI n0))], [.long ((nI m).toInt64), .ref 17], wd C_8 Y og)) rfl ?_
          rw [show ((nI m).toInt64 : Int64) = lN m from nIl m (by omega)]
          have hfl : (fgL m).length + (L ++ gpL rd bf 2 ++ (47 :: nwL (V.2.2.2 k))).length + 200 < 2147483648 := by
            have q1 := wDk_le (rd := rd) (V := V) (f := f) (lk := some t) (m := m) _ r (wLn rd (bf, L) m) (Nat.le_refl _)
            have q2 := wLn_le (rd := rd) (bf, L) m
            have q3 : (bf, L).2.length = L.length := rfl
            have q4 := gpL_1 rd bf 2
            have q5 : (nwL (V.2.2.2 k)).length = 6 := by rw [hk8s k (by simpa using hkt)]; decide +kernel
            simp only [List.length_append, List.length_cons]
            omega
          have hpn := c_W_putWhole (l := l) (D := D) (cA := cA) (ad := ad) (fm := fm) (d + 5) C Y og kp rd A hk hkp hr hrd 2 (L ++ gpL rd bf 2 ++ (47 :: nwL (V.2.2.2 k))) (by omega) C_8 hC_9 (lN m) (by rw [(is_lN (by omega)).2]; omega) (by rw [(is_lN (by omega)).2]; omega)
          rw [wnL_m (by omega)] at hpn
          refine am_callV_r (As := [.long (lN m)]) (rest := []) ok_W_putDictionary rfl rfl ok_W_putWhole oi_W_putWhole lk_4_115 (Or.inl ⟨_, _, _, rfl, rfl, rfl⟩) rfl rfl (Nat.le_of_ble_eq_true rfl) hpn ?_
          rintro v_ w_ ⟨rfl, C_11, rfl, hC_12⟩ -
          have hgqC_11 := gpL_1 rd 2 1
          refine am_eq_r (q' := (81, [some (.ref 17), some (.int (nI v)), some (.int (nI m)), some (.int (nI dp)), some (.int (nI t)), some (.int (nI k)), some (.int (nI n0))], [], wd C_11 Y og)) rfl ?_
          refine am_steps_r ok_W_putDictionary 4 (q' := (106, [some (.ref 17), some (.int (nI v)), some (.int (nI m)), some (.int (nI dp)), some (.int (nI t)), some (.int (nI k)), some (.int (nI n0))], [.int (nI k), .ref 3], wd C_11 Y og)) rfl ?_
          refine am_callV_r (As := [.int (nI k)]) (rest := []) ok_W_putDictionary rfl rfl ok_V_nextOf oi_V_nextOf lk_4_179 (Or.inl ⟨_, _, _, rfl, rfl, rfl⟩) rfl rfl (Nat.le_of_ble_eq_true rfl) (v_next _ hS hC_12 (v := k) (by omega)) ?_
          rintro v_ w_ ⟨rfl, rfl⟩ -
          refine am_eq_r (q' := (109, [some (.ref 17), some (.int (nI v)), some (.int (nI m)), some (.int (nI dp)), some (.int (nI t)), some (.int (nI k)), some (.int (nI n0))], [.int (C.2.1 7 k)], wd C_11 Y og)) rfl ?_
          refine am_steps_r ok_W_putDictionary 3 (q' := (41, [some (.ref 17), some (.int (nI v)), some (.int (nI m)), some (.int (nI dp)), some (.int (nI t)), some (.int (C.2.1 7 k)), some (.int ((nI n0) + 1))], [], wd C_11 Y og)) rfl ?_
          rw [show ((nI n0) + 1 : Int32) = nI (n0 + 1) from nI_add n0 1]
          have hC9 : C_11 = wE C kp A ((wLn rd (bf, L) m).1, (wLn rd (bf, L) m).2) := by rw [hC_12, hk8s k (by simpa using hkt)]; rfl
          exact ih post r (C.2.1 7 k) (n0 + 1) (wLn rd (bf, L) m).1 (wLn rd (bf, L) m).2 C_11 (by show 1 ≤ 5; omega) hC9 (fun z hz => hre z (List.mem_cons_of_mem _ (List.mem_cons_of_mem _ hz))) (fun z hz => hk4s z (List.mem_cons_of_mem _ hz)) hy2 hhl2 hlen2 hb2 (by rw [wDk, if_pos hkt] at hpo; exact hpo) (by simp only [List.length_cons] at hfu; omega)
        · skip
          have h_10 : ¬ k = t := fun z => h_10 ((nI_eq (show k < 2 ^ 31 by omega) (show t < 2 ^ 31 by omega)).mpr z)
          have hkt : ¬ some t = some k := fun z => h_10 (Option.some.inj z).symm
          rw [if_neg hkt] at hb2
          refine am_steps_r ok_W_putDictionary 4 (q' := (91, [some (.ref 17), some (.int (nI v)), some (.int (nI m)), some (.int (nI dp)), some (.int (nI t)), some (.int (nI k)), some (.int (nI n0))], [.int (nI k), .ref 3, .ref 17], wd C_8 Y og)) rfl ?_
          refine am_callV_r (As := [.int (nI k)]) (rest := [.ref 17]) ok_W_putDictionary rfl rfl ok_V_heldBy oi_V_heldBy lk_4_192 (Or.inl ⟨_, _, _, rfl, rfl, rfl⟩) rfl rfl (Nat.le_of_ble_eq_true rfl) (v_held _ hS hC_9 (v := k) (by omega)) ?_
          rintro v_ w_ ⟨rfl, rfl⟩ -
          rw [hk8]
          refine am_eq_r (q' := (94, [some (.ref 17), some (.int (nI v)), some (.int (nI m)), some (.int (nI dp)), some (.int (nI t)), some (.int (nI k)), some (.int (nI n0))], [.int (nI x), .ref 17], wd C_8 Y og)) rfl ?_
          refine am_steps_r ok_W_putDictionary 3 (q' := (97, [some (.ref 17), some (.int (nI v)), some (.int (nI m)), some (.int (nI dp)), some (.int (nI t)), some (.int (nI k)), some (.int (nI n0))], [.int ((nI dp) + 1), .int (nI x), .ref 17], wd C_8 Y og)) rfl ?_
          rw [show ((nI dp) + 1 : Int32) = nI (dp + 1) from nI_add dp 1]
          have hb3 := hb2
          have hlb : (wVl rd V f (2, (L ++ gpL rd bf 2 ++ (47 :: nwL (V.2.2.2 k)))) x).2.length + 1000 < 2147483648 := by have q := wDk_le (rd := rd) (V := V) (f := f) (lk := some t) (m := m) _ r (wVl rd V f (wVl rd V f (bf, L) k) x) (Nat.le_refl _); rw [hnm] at q hb3; omega
          refine am_callV_r (As := [.int (nI x), .int (nI (dp + 1))]) (rest := []) ok_W_putDictionary rfl rfl ok_W_putValue oi_W_putValue lk_4_44 (Or.inl ⟨_, _, _, rfl, rfl, rfl⟩) rfl rfl (Nat.le_of_ble_eq_true rfl) (IH 2 (L ++ gpL rd bf 2 ++ (47 :: nwL (V.2.2.2 k))) C_8 x (by omega) hC_9 (by omega) (by omega) hlb) ?_
          rintro v_ w_ ⟨rfl, C_14, rfl, hC_15⟩ -
          have hbbn_16 : (wVl rd V f (2, (L ++ gpL rd bf 2 ++ (47 :: nwL (V.2.2.2 k)))) x).1 ≤ 5 := wVl_bf f _ _ (show 2 ≤ 5 by omega)
          obtain ⟨bn_16, Ln_16, hsn_16⟩ : ∃ b_ L_, wVl rd V f (2, (L ++ gpL rd bf 2 ++ (47 :: nwL (V.2.2.2 k)))) x = (b_, L_) := ⟨_, _, rfl⟩
          rw [hsn_16] at hC_15 hbbn_16
          have hb5n_16 : bn_16 ≤ 5 := hbbn_16
          refine am_eq_r (q' := (100, [some (.ref 17), some (.int (nI v)), some (.int (nI m)), some (.int (nI dp)), some (.int (nI t)), some (.int (nI k)), some (.int (nI n0))], [], wd C_14 Y og)) rfl ?_
          refine am_steps_r ok_W_putDictionary 3 (q' := (106, [some (.ref 17), some (.int (nI v)), some (.int (nI m)), some (.int (nI dp)), some (.int (nI t)), some (.int (nI k)), some (.int (nI n0))], [.int (nI k), .ref 3], wd C_14 Y og)) rfl ?_
          refine am_callV_r (As := [.int (nI k)]) (rest := []) ok_W_putDictionary rfl rfl ok_V_nextOf oi_V_nextOf lk_4_179 (Or.inl ⟨_, _, _, rfl, rfl, rfl⟩) rfl rfl (Nat.le_of_ble_eq_true rfl) (v_next _ hS hC_15 (v := k) (by omega)) ?_
          rintro v_ w_ ⟨rfl, rfl⟩ -
          refine am_eq_r (q' := (109, [some (.ref 17), some (.int (nI v)), some (.int (nI m)), some (.int (nI dp)), some (.int (nI t)), some (.int (nI k)), some (.int (nI n0))], [.int (C.2.1 7 k)], wd C_14 Y og)) rfl ?_
          refine am_steps_r ok_W_putDictionary 3 (q' := (41, [some (.ref 17), some (.int (nI v)), some (.int (nI m)), some (.int (nI dp)), some (.int (nI t)), some (.int (C.2.1 7 k)), some (.int ((nI n0) + 1))], [], wd C_14 Y og)) rfl ?_
          rw [show ((nI n0) + 1 : Int32) = nI (n0 + 1) from nI_add n0 1]
          exact ih post r (C.2.1 7 k) (n0 + 1) bn_16 Ln_16 C_14 (by omega) hC_15 (fun z hz => hre z (List.mem_cons_of_mem _ (List.mem_cons_of_mem _ hz))) (fun z hz => hk4s z (List.mem_cons_of_mem _ hz)) hy2 hhl2 hlen2 (by rw [hnm, hsn_16] at hb3; exact hb3) (by rw [wDk, if_neg hkt, hnm, hsn_16] at hpo; exact hpo) (by simp only [List.length_cons] at hfu; omega)
set_option maxHeartbeats 4000000 in
set_option maxRecDepth 100000 in
theorem c_W_putDictionary_p (d : Nat) (C : wd_C) (Y : wd_Y) (og : Nat → Int64) (kp rd : Nat) (A : Nat → Int32) (hk : C.1 13 = nI kp) (hkp : kp ≤ 1) (hr : C.1 14 = nI rd) (hrd : rd ≤ 1) (hfm : fm = .null ∨ fm = .ref 3000) (nv u : Nat) (V : VT) (hS : vsC C nv u V) (ht : Nat → Nat) (hg : hG nv V ht) (dp f : Nat) (hdf : dp + f = 8) (IH : ∀ (bf : Nat) (L : List Int32) (C1 : wd_C) (x : Nat), bf ≤ 5 → C1 = wE C kp A (bf, L) → x < nv → ht x + (dp + 1) ≤ 8 → (wVl rd V f (bf, L) x).2.length + 1000 < 2147483648 → am_Mt l D cA ad fm (d + 7) m_W_putValue [.ref 17, .int (nI x), .int (nI (dp + 1))] (wd C1 Y og) (wRt C Y og kp A (wVl rd V f (bf, L) x))) (v : Nat) (hv : v < nv) (h6 : V.1 v = 7) (hhd : ht v + dp ≤ 8) (bf : Nat) (L : List Int32) (hbf : bf ≤ 5) (C1 : wd_C) (h1 : C1 = wE C kp A (bf, L)) (hb : ((V.2.2.1 v).foldl (wVl rd V f) (4, L ++ gpL rd bf 4 ++ st_18)).2.length + 1000 < 2147483648) : am_Mt l D cA ad fm (d + 8) m_W_putDictionary [.ref 17, .int (nI v), .int (-1), .int (nI dp)] (wd C1 Y og) (wRt C Y og kp A (wVl rd V (f + 1) (bf, L) v)) := by
  have hnv := hS.1.2.1
  have hl3 := vsC_len hS hv
  have hbL : L.length + 1000 < 2147483648 := by have h8 := fold_le (F := wVl rd V f) (fun st v => wVl_le f st v) (V.2.2.1 v) (4, L ++ gpL rd bf 4 ++ st_18); have h9 : L.length ≤ (4, L ++ gpL rd bf 4 ++ st_18).2.length := (by show L.length ≤ (L ++ gpL rd bf 4 ++ st_18).length; simp only [List.length_append]; omega); omega
  obtain ⟨r1, r2, r3, r4, r5, r6, r8, r7⟩ := hS.2.1 v hv
  obtain ⟨me, hev⟩ := hld_even (r7.1 h6).2.2
  refine am_mt ok_W_putDictionary (by simp [am_arg, Value.category, m_W_putDictionary, am_ml]) ?_
  refine am_eq_r (q' := (0, [some (.ref 17), some (.int (nI v)), some (.int (-1)), some (.int (nI dp)), none, none, none], [], wd C1 Y og)) rfl ?_
  refine am_steps_r ok_W_putDictionary 9 (q' := (25, [some (.ref 17), some (.int (nI v)), some (.int (-1)), some (.int (nI dp)), some (.int (-1)), none, none], [.ref 1018, .int 4, .ref 17], wd C1 Y og)) rfl ?_
  refine am_callV_r (As := [.int 4, .ref 1018]) (rest := []) ok_W_putDictionary rfl rfl ok_W_putMark oi_W_putMark lk_4_111 (Or.inl ⟨_, _, _, rfl, rfl, rfl⟩) rfl rfl (Nat.le_of_ble_eq_true rfl) (c_W_putMark _ C Y og kp rd A hk hkp hr hrd bf L (by omega) C1 h1 4 (by omega) 18 _ _ _ st_18 rfl (by decide) hfm (by have hL9 : st_18.length < 20 := (by decide); first | omega | (simp only [List.length_append, List.length_cons, List.length_nil] at hb ⊢; omega) | (simp only [List.length_append, List.length_cons, List.length_nil]; omega))) ?_
  rintro v_ w_ ⟨rfl, C_1, rfl, hC_2⟩ -
  have hgpC_1 := gpL_1 rd bf 4
  have hstC_1 : st_18.length < 20 := by decide
  refine am_eq_r (q' := (28, [some (.ref 17), some (.int (nI v)), some (.int (-1)), some (.int (nI dp)), some (.int (-1)), none, none], [], wd C_1 Y og)) rfl ?_
  refine am_steps_r ok_W_putDictionary 3 (q' := (33, [some (.ref 17), some (.int (nI v)), some (.int (-1)), some (.int (nI dp)), some (.int (-1)), none, none], [.int (nI v), .ref 3], wd C_1 Y og)) rfl ?_
  refine am_callV_r (As := [.int (nI v)]) (rest := []) ok_W_putDictionary rfl rfl ok_V_firstOf oi_V_firstOf lk_4_137 (Or.inl ⟨_, _, _, rfl, rfl, rfl⟩) rfl rfl (Nat.le_of_ble_eq_true rfl) (v_first _ hS hC_2 (v := v) (by omega)) ?_
  rintro v_ w_ ⟨rfl, rfl⟩ -
  refine am_eq_r (q' := (36, [some (.ref 17), some (.int (nI v)), some (.int (-1)), some (.int (nI dp)), some (.int (-1)), none, none], [.int (C.2.1 5 v)], wd C_1 Y og)) rfl ?_
  refine am_steps_r ok_W_putDictionary 3 (q' := (41, [some (.ref 17), some (.int (nI v)), some (.int (-1)), some (.int (nI dp)), some (.int (-1)), some (.int (C.2.1 5 v)), some (.int 0)], [], wd C_1 Y og)) rfl ?_
  refine am_eq_r (q' := (41, [some (.ref 17), some (.int (nI v)), some (.int (-1)), some (.int (nI dp)), some (.int (-1)), some (.int (C.2.1 5 v)), some (.int (nI 0))], [], wd C_1 Y og)) rfl ?_
  exact lp_W_putDictionary_p d C Y og kp rd A hk hkp hr hrd hfm nv u V hS ht hg dp f hdf IH v hv  ((V.2.2.1 v).length + 1) _ (V.2.2.1 v) _ 0 4 (L ++ gpL rd bf 4 ++ st_18) C_1 (by omega) hC_2 (fun a ha => ⟨r4 a ha, by have := (hg v hv).2.1 (by rw [h6]; decide) a ha; omega⟩) (fun a ha => (hg v hv).2.2.1 h6 a ha) (r7.1 h6).1 (r7.1 h6).2.2 (by omega) (by rw [wDk_no (m := 0) _ _ _ hev]; exact hb) (fun C2 h2 => ⟨rfl, C2, rfl, by rw [wVl_7 h6, ← wDk_no (m := 0) _ _ _ hev]; exact h2⟩) (by omega)
set_option maxHeartbeats 4000000 in
set_option maxRecDepth 100000 in
theorem c_W_putDictionary_s (d : Nat) (C : wd_C) (Y : wd_Y) (og : Nat → Int64) (kp rd : Nat) (A : Nat → Int32) (hk : C.1 13 = nI kp) (hkp : kp ≤ 1) (hr : C.1 14 = nI rd) (hrd : rd ≤ 1) (hfm : fm = .null ∨ fm = .ref 3000) (nv u : Nat) (V : VT) (hS : vsC C nv u V) (ht : Nat → Nat) (hg : hG nv V ht) (dp f : Nat) (hdf : dp + f = 8) (IH : ∀ (bf : Nat) (L : List Int32) (C1 : wd_C) (x : Nat), bf ≤ 5 → C1 = wE C kp A (bf, L) → x < nv → ht x + (dp + 1) ≤ 8 → (wVl rd V f (bf, L) x).2.length + 1000 < 2147483648 → am_Mt l D cA ad fm (d + 7) m_W_putValue [.ref 17, .int (nI x), .int (nI (dp + 1))] (wd C1 Y og) (wRt C Y og kp A (wVl rd V f (bf, L) x))) (v : Nat) (hv : v < nv) (h6 : V.1 v = 7) (hhd : ht v + dp ≤ 8) (bf : Nat) (L : List Int32) (hbf : bf ≤ 5) (C1 : wd_C) (h1 : C1 = wE C kp A (bf, L)) (m : Nat) (hm : m < 1000000) (hb : (wDk rd V f (vtSpl V v st_8) m (4, L ++ gpL rd bf 4 ++ st_18) (V.2.2.1 v)).2.length + 1000 < 2147483648) : am_Mt l D cA ad fm (d + 8) m_W_putDictionary [.ref 17, .int (nI v), .int (nI m), .int (nI dp)] (wd C1 Y og) (wRt C Y og kp A (wDc rd V f (bf, L) v m)) := by
  have hnv := hS.1.2.1
  have hl3 := vsC_len hS hv
  have hbL : L.length + 1000 < 2147483648 := by have h8 := wDk_le (rd := rd) (V := V) (f := f) (lk := vtSpl V v st_8) (m := m) _ (V.2.2.1 v) (4, L ++ gpL rd bf 4 ++ st_18) (Nat.le_refl _); have h9 : L.length ≤ (4, L ++ gpL rd bf 4 ++ st_18).2.length := (by show L.length ≤ (L ++ gpL rd bf 4 ++ st_18).length; simp only [List.length_append]; omega); omega
  obtain ⟨r1, r2, r3, r4, r5, r6, r8, r7⟩ := hS.2.1 v hv
  refine am_mt ok_W_putDictionary (by simp [am_arg, Value.category, m_W_putDictionary, am_ml]) ?_
  refine am_eq_r (q' := (0, [some (.ref 17), some (.int (nI v)), some (.int (nI m)), some (.int (nI dp)), none, none, none], [], wd C1 Y og)) rfl ?_
  refine am_steps_r ok_W_putDictionary 3 (q' := (bif decide ((nI m) = (-1)) then 5 else 9, [some (.ref 17), some (.int (nI v)), some (.int (nI m)), some (.int (nI dp)), none, none, none], [], wd C1 Y og)) rfl ?_
  refine am_br_r (fun h_1 => ?_) (fun h_1 => ?_)
  · skip
    exact absurd h_1 (nI_nm (show m < 2 ^ 31 by omega))
  · skip
    refine am_steps_r ok_W_putDictionary 4 (q' := (16, [some (.ref 17), some (.int (nI v)), some (.int (nI m)), some (.int (nI dp)), none, none, none], [.ref 1017, .int (nI v), .ref 3], wd C1 Y og)) rfl ?_
    refine am_callV_r (As := [.int (nI v), .ref 1017]) (rest := []) ok_W_putDictionary rfl rfl ok_V_keySpelled oi_V_keySpelled lk_4_186 (Or.inl ⟨_, _, _, rfl, rfl, rfl⟩) rfl rfl (Nat.le_of_ble_eq_true rfl) (c_V_keySpelled _ C1 Y og nv u V (vs1 hS h1) v hv h6 17 _ _ _ st_17 rfl (by decide) hfm) ?_
    rintro v_ w_ ⟨rfl, rfl⟩ -
    rw [show vtSpl V v st_17 = vtSpl V v st_8 from rfl]
    rcases hsp : vtSpl V v st_8 with _ | t
    · skip
      refine am_eq_r (q' := (19, [some (.ref 17), some (.int (nI v)), some (.int (nI m)), some (.int (nI dp)), none, none, none], [.int (-1)], wd C1 Y og)) rfl ?_
      refine am_steps_r ok_W_putDictionary 4 (q' := (25, [some (.ref 17), some (.int (nI v)), some (.int (nI m)), some (.int (nI dp)), some (.int (-1)), none, none], [.ref 1018, .int 4, .ref 17], wd C1 Y og)) rfl ?_
      refine am_callV_r (As := [.int 4, .ref 1018]) (rest := []) ok_W_putDictionary rfl rfl ok_W_putMark oi_W_putMark lk_4_111 (Or.inl ⟨_, _, _, rfl, rfl, rfl⟩) rfl rfl (Nat.le_of_ble_eq_true rfl) (c_W_putMark _ C Y og kp rd A hk hkp hr hrd bf L (by omega) C1 h1 4 (by omega) 18 _ _ _ st_18 rfl (by decide) hfm (by have hL9 : st_18.length < 20 := (by decide); first | omega | (simp only [List.length_append, List.length_cons, List.length_nil] at hb ⊢; omega) | (simp only [List.length_append, List.length_cons, List.length_nil]; omega))) ?_
      rintro v_ w_ ⟨rfl, C_2, rfl, hC_3⟩ -
      have hgpC_2 := gpL_1 rd bf 4
      have hstC_2 : st_18.length < 20 := by decide
      refine am_eq_r (q' := (28, [some (.ref 17), some (.int (nI v)), some (.int (nI m)), some (.int (nI dp)), some (.int (-1)), none, none], [], wd C_2 Y og)) rfl ?_
      refine am_steps_r ok_W_putDictionary 3 (q' := (33, [some (.ref 17), some (.int (nI v)), some (.int (nI m)), some (.int (nI dp)), some (.int (-1)), none, none], [.int (nI v), .ref 3], wd C_2 Y og)) rfl ?_
      refine am_callV_r (As := [.int (nI v)]) (rest := []) ok_W_putDictionary rfl rfl ok_V_firstOf oi_V_firstOf lk_4_137 (Or.inl ⟨_, _, _, rfl, rfl, rfl⟩) rfl rfl (Nat.le_of_ble_eq_true rfl) (v_first _ hS hC_3 (v := v) (by omega)) ?_
      rintro v_ w_ ⟨rfl, rfl⟩ -
      refine am_eq_r (q' := (36, [some (.ref 17), some (.int (nI v)), some (.int (nI m)), some (.int (nI dp)), some (.int (-1)), none, none], [.int (C.2.1 5 v)], wd C_2 Y og)) rfl ?_
      refine am_steps_r ok_W_putDictionary 3 (q' := (41, [some (.ref 17), some (.int (nI v)), some (.int (nI m)), some (.int (nI dp)), some (.int (-1)), some (.int (C.2.1 5 v)), some (.int 0)], [], wd C_2 Y og)) rfl ?_
      refine am_eq_r (q' := (41, [some (.ref 17), some (.int (nI v)), some (.int (nI m)), some (.int (nI dp)), some (.int (-1)), some (.int (C.2.1 5 v)), some (.int (nI 0))], [], wd C_2 Y og)) rfl ?_
      exact lp_W_putDictionary_n d C Y og kp rd A hk hkp hr hrd hfm nv u V hS ht hg dp f hdf IH v hv m hm ((V.2.2.1 v).length + 1) _ (V.2.2.1 v) _ 0 4 (L ++ gpL rd bf 4 ++ st_18) C_2 (by omega) hC_3 (fun a ha => ⟨r4 a ha, by have := (hg v hv).2.1 (by rw [h6]; decide) a ha; omega⟩) (fun a ha => (hg v hv).2.2.1 h6 a ha) (r7.1 h6).1 (r7.1 h6).2.2 (by omega) (by rw [hsp] at hb; exact hb) (fun C2 h2 => ⟨rfl, C2, rfl, by unfold wDc; simp only [hsp, if_true]; exact h2⟩) (by omega)
    · skip
      have ht0 : t ∈ keysOf (V.2.2.1 v) := List.mem_of_find?_eq_some hsp
      have ht9 : t < nv := r4 t (keysOf_mem ht0)
      have hk8t : ∀ k, t = k → V.2.2.2 k = st_8 := fun k hk => by subst hk; have := List.find?_some hsp; simpa using this
      refine am_eq_r (q' := (19, [some (.ref 17), some (.int (nI v)), some (.int (nI m)), some (.int (nI dp)), none, none, none], [.int (nI t)], wd C1 Y og)) rfl ?_
      refine am_steps_r ok_W_putDictionary 4 (q' := (25, [some (.ref 17), some (.int (nI v)), some (.int (nI m)), some (.int (nI dp)), some (.int (nI t)), none, none], [.ref 1018, .int 4, .ref 17], wd C1 Y og)) rfl ?_
      refine am_callV_r (As := [.int 4, .ref 1018]) (rest := []) ok_W_putDictionary rfl rfl ok_W_putMark oi_W_putMark lk_4_111 (Or.inl ⟨_, _, _, rfl, rfl, rfl⟩) rfl rfl (Nat.le_of_ble_eq_true rfl) (c_W_putMark _ C Y og kp rd A hk hkp hr hrd bf L (by omega) C1 h1 4 (by omega) 18 _ _ _ st_18 rfl (by decide) hfm (by have hL9 : st_18.length < 20 := (by decide); first | omega | (simp only [List.length_append, List.length_cons, List.length_nil] at hb ⊢; omega) | (simp only [List.length_append, List.length_cons, List.length_nil]; omega))) ?_
      rintro v_ w_ ⟨rfl, C_5, rfl, hC_6⟩ -
      have hgpC_5 := gpL_1 rd bf 4
      have hstC_5 : st_18.length < 20 := by decide
      refine am_eq_r (q' := (28, [some (.ref 17), some (.int (nI v)), some (.int (nI m)), some (.int (nI dp)), some (.int (nI t)), none, none], [], wd C_5 Y og)) rfl ?_
      refine am_steps_r ok_W_putDictionary 3 (q' := (33, [some (.ref 17), some (.int (nI v)), some (.int (nI m)), some (.int (nI dp)), some (.int (nI t)), none, none], [.int (nI v), .ref 3], wd C_5 Y og)) rfl ?_
      refine am_callV_r (As := [.int (nI v)]) (rest := []) ok_W_putDictionary rfl rfl ok_V_firstOf oi_V_firstOf lk_4_137 (Or.inl ⟨_, _, _, rfl, rfl, rfl⟩) rfl rfl (Nat.le_of_ble_eq_true rfl) (v_first _ hS hC_6 (v := v) (by omega)) ?_
      rintro v_ w_ ⟨rfl, rfl⟩ -
      refine am_eq_r (q' := (36, [some (.ref 17), some (.int (nI v)), some (.int (nI m)), some (.int (nI dp)), some (.int (nI t)), none, none], [.int (C.2.1 5 v)], wd C_5 Y og)) rfl ?_
      refine am_steps_r ok_W_putDictionary 3 (q' := (41, [some (.ref 17), some (.int (nI v)), some (.int (nI m)), some (.int (nI dp)), some (.int (nI t)), some (.int (C.2.1 5 v)), some (.int 0)], [], wd C_5 Y og)) rfl ?_
      refine am_eq_r (q' := (41, [some (.ref 17), some (.int (nI v)), some (.int (nI m)), some (.int (nI dp)), some (.int (nI t)), some (.int (C.2.1 5 v)), some (.int (nI 0))], [], wd C_5 Y og)) rfl ?_
      exact lp_W_putDictionary_t d C Y og kp rd A hk hkp hr hrd hfm nv u V hS ht hg dp f hdf IH v hv m hm t ht9 hk8t ((V.2.2.1 v).length + 1) _ (V.2.2.1 v) _ 0 4 (L ++ gpL rd bf 4 ++ st_18) C_5 (by omega) hC_6 (fun a ha => ⟨r4 a ha, by have := (hg v hv).2.1 (by rw [h6]; decide) a ha; omega⟩) (fun a ha => (hg v hv).2.2.1 h6 a ha) (r7.1 h6).1 (r7.1 h6).2.2 (by omega) (by rw [hsp] at hb; exact hb) (fun C2 h2 => ⟨rfl, C2, rfl, by unfold wDc; simp only [hsp, reduceCtorEq, if_false]; exact h2⟩) (by omega)
set_option maxHeartbeats 4000000 in
set_option maxRecDepth 100000 in
theorem c_W_putValue_i (d : Nat) (C : wd_C) (Y : wd_Y) (og : Nat → Int64) (kp rd : Nat) (A : Nat → Int32) (hk : C.1 13 = nI kp) (hkp : kp ≤ 1) (hr : C.1 14 = nI rd) (hrd : rd ≤ 1) (hfm : fm = .null ∨ fm = .ref 3000) (nv u : Nat) (V : VT) (hS : vsC C nv u V) (ht : Nat → Nat) (hg : hG nv V ht) (dp f : Nat) (hdf : dp + f = 8) (IH : ∀ (bf : Nat) (L : List Int32) (C1 : wd_C) (x : Nat), bf ≤ 5 → C1 = wE C kp A (bf, L) → x < nv → ht x + (dp + 1) ≤ 8 → (wVl rd V f (bf, L) x).2.length + 1000 < 2147483648 → am_Mt l D cA ad fm (d + 7) m_W_putValue [.ref 17, .int (nI x), .int (nI (dp + 1))] (wd C1 Y og) (wRt C Y og kp A (wVl rd V f (bf, L) x))) (v : Nat) (hv : v < nv) (hne : ¬ V.1 v = 9) (hhd : ht v + dp ≤ 8) (bf : Nat) (L : List Int32) (hbf : bf ≤ 5) (C1 : wd_C) (h1 : C1 = wE C kp A (bf, L)) (hb : (wVl rd V (f + 1) (bf, L) v).2.length + 1000 < 2147483648) : am_Mt l D cA ad fm (d + 9) m_W_putValue [.ref 17, .int (nI v), .int (nI dp)] (wd C1 Y og) (wRt C Y og kp A (wVl rd V (f + 1) (bf, L) v)) := by
  have hnv := hS.1.2.1
  have hnb := (hg v hv).2.2.2.2
  have hbL : L.length + 1000 < 2147483648 := by have h8 := wVl_le (rd := rd) (V := V) (f + 1) (bf, L) v; have h9 : (bf, L).2.length = L.length := rfl; omega
  refine am_mt ok_W_putValue (by simp [am_arg, Value.category, m_W_putValue, am_ml]) ?_
  refine am_eq_r (q' := (0, [some (.ref 17), some (.int (nI v)), some (.int (nI dp))], [], wd C1 Y og)) rfl ?_
  refine am_steps_r ok_W_putValue 3 (q' := (5, [some (.ref 17), some (.int (nI v)), some (.int (nI dp))], [.int (nI v), .ref 3], wd C1 Y og)) rfl ?_
  refine am_callV_r (As := [.int (nI v)]) (rest := []) ok_W_putValue rfl rfl ok_V_kindOf oi_V_kindOf lk_4_98 (Or.inl ⟨_, _, _, rfl, rfl, rfl⟩) rfl rfl (Nat.le_of_ble_eq_true rfl) (v_kind _ hS h1 (v := v) hv) ?_
  rintro v_ w_ ⟨rfl, rfl⟩ -
  refine am_eq_r (q' := (8, [some (.ref 17), some (.int (nI v)), some (.int (nI dp))], [.int (V.1 v)], wd C1 Y og)) rfl ?_
  refine am_tsw_r ok_W_putValue rfl (by first | rfl | decide | decide +kernel | simp) ?_
  by_cases h_2 : (V.1 v) = 1
  · skip
    refine am_eq_r (q' := (60, [some (.ref 17), some (.int (nI v)), some (.int (nI dp))], [], wd C1 Y og)) (by rw [am_ts_in h_2]; rfl) ?_
    refine am_steps_r ok_W_putValue 5 (q' := (67, [some (.ref 17), some (.int (nI v)), some (.int (nI dp))], [.int (nI v), .ref 3, .int 1, .ref 17], wd C1 Y og)) rfl ?_
    refine am_callV_r (As := [.int (nI v)]) (rest := [.int 1, .ref 17]) ok_W_putValue rfl rfl ok_V_numberOf oi_V_numberOf lk_4_103 (Or.inl ⟨_, _, _, rfl, rfl, rfl⟩) rfl rfl (Nat.le_of_ble_eq_true rfl) (v_number _ hS h1 (v := v) hv) ?_
    rintro v_ w_ ⟨rfl, rfl⟩ -
    refine am_eq_r (q' := (70, [some (.ref 17), some (.int (nI v)), some (.int (nI dp))], [.long (V.2.1 v), .int 1, .ref 17], wd C1 Y og)) rfl ?_
    refine am_steps_r ok_W_putValue 3 (q' := (bif decide ((lg_cmp (V.2.1 v) 1) = 0) then 75 else 80, [some (.ref 17), some (.int (nI v)), some (.int (nI dp))], [.int 1, .ref 17], wd C1 Y og)) rfl ?_
    refine am_br_r (fun h_4 => ?_) (fun h_4 => ?_)
    · skip
      refine am_steps_r ok_W_putValue 2 (q' := (82, [some (.ref 17), some (.int (nI v)), some (.int (nI dp))], [.ref 1011, .int 1, .ref 17], wd C1 Y og)) rfl ?_
      refine am_callV_r (As := [.int 1, .ref 1011]) (rest := []) ok_W_putValue rfl rfl ok_W_putMark oi_W_putMark lk_4_111 (Or.inl ⟨_, _, _, rfl, rfl, rfl⟩) rfl rfl (Nat.le_of_ble_eq_true rfl) (c_W_putMark _ C Y og kp rd A hk hkp hr hrd bf L (by omega) C1 h1 1 (by omega) 11 _ _ _ st_11 rfl (by decide) hfm (by have hq : st_11.length < 20 := (by decide); simp only [List.length_append]; omega)) ?_
      rintro v_ w_ ⟨rfl, C_5, rfl, hC_6⟩ -
      refine am_eq_r (q' := (85, [some (.ref 17), some (.int (nI v)), some (.int (nI dp))], [], wd C_5 Y og)) rfl ?_
      refine am_steps_r ok_W_putValue 1 (q' := (204, [some (.ref 17), some (.int (nI v)), some (.int (nI dp))], [], wd C_5 Y og)) rfl ?_
      refine am_vret_r ok_W_putValue rfl rfl rfl ?_
      exact ⟨rfl, _, rfl, by rw [wVl_1 h_2, if_pos (cmp_0.mp h_4)]; exact hC_6⟩
    · skip
      refine am_steps_r ok_W_putValue 1 (q' := (82, [some (.ref 17), some (.int (nI v)), some (.int (nI dp))], [.ref 1012, .int 1, .ref 17], wd C1 Y og)) rfl ?_
      refine am_callV_r (As := [.int 1, .ref 1012]) (rest := []) ok_W_putValue rfl rfl ok_W_putMark oi_W_putMark lk_4_111 (Or.inl ⟨_, _, _, rfl, rfl, rfl⟩) rfl rfl (Nat.le_of_ble_eq_true rfl) (c_W_putMark _ C Y og kp rd A hk hkp hr hrd bf L (by omega) C1 h1 1 (by omega) 12 _ _ _ st_12 rfl (by decide) hfm (by have hq : st_12.length < 20 := (by decide); simp only [List.length_append]; omega)) ?_
      rintro v_ w_ ⟨rfl, C_7, rfl, hC_8⟩ -
      refine am_eq_r (q' := (85, [some (.ref 17), some (.int (nI v)), some (.int (nI dp))], [], wd C_7 Y og)) rfl ?_
      refine am_steps_r ok_W_putValue 1 (q' := (204, [some (.ref 17), some (.int (nI v)), some (.int (nI dp))], [], wd C_7 Y og)) rfl ?_
      refine am_vret_r ok_W_putValue rfl rfl rfl ?_
      exact ⟨rfl, _, rfl, by rw [wVl_1 h_2, if_neg (fun z => h_4 (cmp_0.mpr z))]; exact hC_8⟩
  · skip
    by_cases h_9 : (V.1 v) = 2
    · skip
      refine am_eq_r (q' := (88, [some (.ref 17), some (.int (nI v)), some (.int (nI dp))], [], wd C1 Y og)) (by rw [am_ts_in h_9]; rfl) ?_
      refine am_steps_r ok_W_putValue 4 (q' := (94, [some (.ref 17), some (.int (nI v)), some (.int (nI dp))], [.int (nI v), .ref 3, .ref 17], wd C1 Y og)) rfl ?_
      refine am_callV_r (As := [.int (nI v)]) (rest := [.ref 17]) ok_W_putValue rfl rfl ok_V_numberOf oi_V_numberOf lk_4_103 (Or.inl ⟨_, _, _, rfl, rfl, rfl⟩) rfl rfl (Nat.le_of_ble_eq_true rfl) (v_number _ hS h1 (v := v) hv) ?_
      rintro v_ w_ ⟨rfl, rfl⟩ -
      refine am_eq_r (q' := (97, [some (.ref 17), some (.int (nI v)), some (.int (nI dp))], [.long (V.2.1 v), .ref 17], wd C1 Y og)) rfl ?_
      refine am_callV_r (As := [.long (V.2.1 v)]) (rest := []) ok_W_putValue rfl rfl ok_W_putWhole oi_W_putWhole lk_4_115 (Or.inl ⟨_, _, _, rfl, rfl, rfl⟩) rfl rfl (Nat.le_of_ble_eq_true rfl) (c_W_putWhole _ C Y og kp rd A hk hkp hr hrd bf L (by omega) C1 h1 (V.2.1 v) (by have := nb_2 hnb h_9; omega) (by have := fgL_len (abN (V.2.1 v)); omega)) ?_
      rintro v_ w_ ⟨rfl, C_11, rfl, hC_12⟩ -
      refine am_eq_r (q' := (100, [some (.ref 17), some (.int (nI v)), some (.int (nI dp))], [], wd C_11 Y og)) rfl ?_
      refine am_steps_r ok_W_putValue 1 (q' := (204, [some (.ref 17), some (.int (nI v)), some (.int (nI dp))], [], wd C_11 Y og)) rfl ?_
      refine am_vret_r ok_W_putValue rfl rfl rfl ?_
      exact ⟨rfl, _, rfl, by rw [wVl_2 h_9]; exact hC_12⟩
    · skip
      by_cases h_13 : (V.1 v) = 3
      · skip
        refine am_eq_r (q' := (103, [some (.ref 17), some (.int (nI v)), some (.int (nI dp))], [], wd C1 Y og)) (by rw [am_ts_in h_13]; rfl) ?_
        refine am_steps_r ok_W_putValue 4 (q' := (109, [some (.ref 17), some (.int (nI v)), some (.int (nI dp))], [.int (nI v), .ref 3, .ref 17], wd C1 Y og)) rfl ?_
        refine am_callV_r (As := [.int (nI v)]) (rest := [.ref 17]) ok_W_putValue rfl rfl ok_V_numberOf oi_V_numberOf lk_4_103 (Or.inl ⟨_, _, _, rfl, rfl, rfl⟩) rfl rfl (Nat.le_of_ble_eq_true rfl) (v_number _ hS h1 (v := v) hv) ?_
        rintro v_ w_ ⟨rfl, rfl⟩ -
        refine am_eq_r (q' := (112, [some (.ref 17), some (.int (nI v)), some (.int (nI dp))], [.long (V.2.1 v), .ref 17], wd C1 Y og)) rfl ?_
        refine am_callV_r (As := [.long (V.2.1 v)]) (rest := []) ok_W_putValue rfl rfl ok_W_putReal oi_W_putReal lk_4_118 (Or.inl ⟨_, _, _, rfl, rfl, rfl⟩) rfl rfl (Nat.le_of_ble_eq_true rfl) (c_W_putReal _ C Y og kp rd A hk hkp hr hrd bf L (by omega) C1 h1 (V.2.1 v) (by have := nb_3 hnb h_13; omega) (by have := fgL_len (abN (V.2.1 v) / 1000000); have := frL_len 6 (abN (V.2.1 v) % 1000000); omega)) ?_
        rintro v_ w_ ⟨rfl, C_15, rfl, hC_16⟩ -
        refine am_eq_r (q' := (115, [some (.ref 17), some (.int (nI v)), some (.int (nI dp))], [], wd C_15 Y og)) rfl ?_
        refine am_steps_r ok_W_putValue 1 (q' := (204, [some (.ref 17), some (.int (nI v)), some (.int (nI dp))], [], wd C_15 Y og)) rfl ?_
        refine am_vret_r ok_W_putValue rfl rfl rfl ?_
        exact ⟨rfl, _, rfl, by rw [wVl_3 h_13]; exact hC_16⟩
      · skip
        by_cases h_17 : (V.1 v) = 4
        · skip
          refine am_eq_r (q' := (118, [some (.ref 17), some (.int (nI v)), some (.int (nI dp))], [], wd C1 Y og)) (by rw [am_ts_in h_17]; rfl) ?_
          refine am_steps_r ok_W_putValue 2 (q' := (120, [some (.ref 17), some (.int (nI v)), some (.int (nI dp))], [.int (nI v), .ref 17], wd C1 Y og)) rfl ?_
          refine am_callV_r (As := [.int (nI v)]) (rest := []) ok_W_putValue rfl rfl ok_W_putName oi_W_putName lk_4_121 (Or.inl ⟨_, _, _, rfl, rfl, rfl⟩) rfl rfl (Nat.le_of_ble_eq_true rfl) (c_W_putName _ C Y og kp rd A hk hkp hr hrd bf L (by omega) C1 h1 hfm nv u V hS v hv (by rw [wVl_4 h_17] at hb; simp only [List.length_append, List.length_cons] at hb; omega)) ?_
          rintro v_ w_ ⟨rfl, C_18, rfl, hC_19⟩ -
          refine am_eq_r (q' := (123, [some (.ref 17), some (.int (nI v)), some (.int (nI dp))], [], wd C_18 Y og)) rfl ?_
          refine am_steps_r ok_W_putValue 1 (q' := (204, [some (.ref 17), some (.int (nI v)), some (.int (nI dp))], [], wd C_18 Y og)) rfl ?_
          refine am_vret_r ok_W_putValue rfl rfl rfl ?_
          exact ⟨rfl, _, rfl, by rw [wVl_4 h_17]; exact hC_19⟩
        · skip
          by_cases h_20 : (V.1 v) = 5
          · skip
            refine am_eq_r (q' := (126, [some (.ref 17), some (.int (nI v)), some (.int (nI dp))], [], wd C1 Y og)) (by rw [am_ts_in h_20]; rfl) ?_
            refine am_steps_r ok_W_putValue 2 (q' := (128, [some (.ref 17), some (.int (nI v)), some (.int (nI dp))], [.int (nI v), .ref 17], wd C1 Y og)) rfl ?_
            refine am_callV_r (As := [.int (nI v)]) (rest := []) ok_W_putValue rfl rfl ok_W_putString oi_W_putString lk_4_124 (Or.inl ⟨_, _, _, rfl, rfl, rfl⟩) rfl rfl (Nat.le_of_ble_eq_true rfl) (c_W_putString _ C Y og kp rd A hk hkp hr hrd bf L (by omega) C1 h1 hfm nv u V hS v hv (by rw [wVl_5 h_20] at hb; simp only [List.length_append, List.length_cons] at hb; omega)) ?_
            rintro v_ w_ ⟨rfl, C_21, rfl, hC_22⟩ -
            refine am_eq_r (q' := (131, [some (.ref 17), some (.int (nI v)), some (.int (nI dp))], [], wd C_21 Y og)) rfl ?_
            refine am_steps_r ok_W_putValue 1 (q' := (204, [some (.ref 17), some (.int (nI v)), some (.int (nI dp))], [], wd C_21 Y og)) rfl ?_
            refine am_vret_r ok_W_putValue rfl rfl rfl ?_
            exact ⟨rfl, _, rfl, by rw [wVl_5 h_20]; exact hC_22⟩
          · skip
            by_cases h_23 : (V.1 v) = 6
            · skip
              refine am_eq_r (q' := (134, [some (.ref 17), some (.int (nI v)), some (.int (nI dp))], [], wd C1 Y og)) (by rw [am_ts_in h_23]; rfl) ?_
              refine am_steps_r ok_W_putValue 3 (q' := (137, [some (.ref 17), some (.int (nI v)), some (.int (nI dp))], [.int (nI dp), .int (nI v), .ref 17], wd C1 Y og)) rfl ?_
              refine am_callV_r (As := [.int (nI v), .int (nI dp)]) (rest := []) ok_W_putValue rfl rfl ok_W_putArray oi_W_putArray lk_4_127 (Or.inl ⟨_, _, _, rfl, rfl, rfl⟩) rfl rfl (Nat.le_of_ble_eq_true rfl) (c_W_putArray _ C Y og kp rd A hk hkp hr hrd hfm nv u V hS ht hg dp f hdf IH v hv h_23 hhd bf L (by omega) C1 h1 (by rw [wVl_6 h_23] at hb; have := wPc_le (rd := rd) ((V.2.2.1 v).foldl (wVl rd V f) (4, L ++ gpL rd bf 4 ++ st_15)) 5 st_16; omega)) ?_
              rintro v_ w_ ⟨rfl, C_24, rfl, hC_25⟩ -
              refine am_eq_r (q' := (140, [some (.ref 17), some (.int (nI v)), some (.int (nI dp))], [], wd C_24 Y og)) rfl ?_
              refine am_steps_r ok_W_putValue 1 (q' := (204, [some (.ref 17), some (.int (nI v)), some (.int (nI dp))], [], wd C_24 Y og)) rfl ?_
              refine am_vret_r ok_W_putValue rfl rfl rfl ?_
              exact ⟨rfl, _, rfl, hC_25⟩
            · skip
              by_cases h_26 : (V.1 v) = 7
              · skip
                refine am_eq_r (q' := (143, [some (.ref 17), some (.int (nI v)), some (.int (nI dp))], [], wd C1 Y og)) (by rw [am_ts_in h_26]; rfl) ?_
                refine am_steps_r ok_W_putValue 4 (q' := (147, [some (.ref 17), some (.int (nI v)), some (.int (nI dp))], [.int (nI dp), .int (-1), .int (nI v), .ref 17], wd C1 Y og)) rfl ?_
                refine am_callV_r (As := [.int (nI v), .int (-1), .int (nI dp)]) (rest := []) ok_W_putValue rfl rfl ok_W_putDictionary oi_W_putDictionary lk_4_130 (Or.inl ⟨_, _, _, rfl, rfl, rfl⟩) rfl rfl (Nat.le_of_ble_eq_true rfl) (c_W_putDictionary_p _ C Y og kp rd A hk hkp hr hrd hfm nv u V hS ht hg dp f hdf IH v hv h_26 hhd bf L (by omega) C1 h1 (by rw [wVl_7 h_26] at hb; have := wPc_le (rd := rd) ((V.2.2.1 v).foldl (wVl rd V f) (4, L ++ gpL rd bf 4 ++ st_18)) 5 st_20; omega)) ?_
                rintro v_ w_ ⟨rfl, C_27, rfl, hC_28⟩ -
                refine am_eq_r (q' := (150, [some (.ref 17), some (.int (nI v)), some (.int (nI dp))], [], wd C_27 Y og)) rfl ?_
                refine am_steps_r ok_W_putValue 1 (q' := (204, [some (.ref 17), some (.int (nI v)), some (.int (nI dp))], [], wd C_27 Y og)) rfl ?_
                refine am_vret_r ok_W_putValue rfl rfl rfl ?_
                exact ⟨rfl, _, rfl, hC_28⟩
              · skip
                by_cases h_29 : (V.1 v) = 8
                · skip
                  refine am_eq_r (q' := (153, [some (.ref 17), some (.int (nI v)), some (.int (nI dp))], [], wd C1 Y og)) (by rw [am_ts_in h_29]; rfl) ?_
                  refine am_steps_r ok_W_putValue 4 (q' := (159, [some (.ref 17), some (.int (nI v)), some (.int (nI dp))], [.int (nI v), .ref 3, .ref 17], wd C1 Y og)) rfl ?_
                  refine am_callV_r (As := [.int (nI v)]) (rest := [.ref 17]) ok_W_putValue rfl rfl ok_V_numberOf oi_V_numberOf lk_4_103 (Or.inl ⟨_, _, _, rfl, rfl, rfl⟩) rfl rfl (Nat.le_of_ble_eq_true rfl) (v_number _ hS h1 (v := v) hv) ?_
                  rintro v_ w_ ⟨rfl, rfl⟩ -
                  refine am_eq_r (q' := (162, [some (.ref 17), some (.int (nI v)), some (.int (nI dp))], [.long (V.2.1 v), .ref 17], wd C1 Y og)) rfl ?_
                  obtain ⟨n8, hn1, hn2, hn3, hn4⟩ := nb_8 hnb h_29
                  rw [hn2]
                  refine am_callV_r (As := [.long (lN n8)]) (rest := []) ok_W_putValue rfl rfl ok_W_putReference oi_W_putReference lk_4_134 (Or.inl ⟨_, _, _, rfl, rfl, rfl⟩) rfl rfl (Nat.le_of_ble_eq_true rfl) (c_W_putReference _ C Y og kp rd A hk hkp hr hrd bf L (by omega) C1 h1 hfm n8 hn1 (by have := fgL_len (n8 % 1000000000); have := fgL_len (n8 / 1000000000); omega)) ?_
                  rintro v_ w_ ⟨rfl, C_31, rfl, hC_32⟩ -
                  refine am_eq_r (q' := (165, [some (.ref 17), some (.int (nI v)), some (.int (nI dp))], [], wd C_31 Y og)) rfl ?_
                  refine am_steps_r ok_W_putValue 1 (q' := (204, [some (.ref 17), some (.int (nI v)), some (.int (nI dp))], [], wd C_31 Y og)) rfl ?_
                  refine am_vret_r ok_W_putValue rfl rfl rfl ?_
                  exact ⟨rfl, _, rfl, by rw [wVl_8 h_29, hn3]; exact hC_32⟩
                · skip
                  by_cases h_33 : (V.1 v) = 9
                  · skip
                    refine am_eq_r (q' := (168, [some (.ref 17), some (.int (nI v)), some (.int (nI dp))], [], wd C1 Y og)) (by rw [am_ts_in h_33]; rfl) ?_
                    exact absurd h_33 hne
                  · skip
                    refine am_eq_r (q' := (197, [some (.ref 17), some (.int (nI v)), some (.int (nI dp))], [], wd C1 Y og)) (by rw [am_ts_out (by have n0 : ¬ ((V.1 v)).toInt = 1 := fun z => h_2 (Int32.toInt_inj.mp z); have n1 : ¬ ((V.1 v)).toInt = 2 := fun z => h_9 (Int32.toInt_inj.mp z); have n2 : ¬ ((V.1 v)).toInt = 3 := fun z => h_13 (Int32.toInt_inj.mp z); have n3 : ¬ ((V.1 v)).toInt = 4 := fun z => h_17 (Int32.toInt_inj.mp z); have n4 : ¬ ((V.1 v)).toInt = 5 := fun z => h_20 (Int32.toInt_inj.mp z); have n5 : ¬ ((V.1 v)).toInt = 6 := fun z => h_23 (Int32.toInt_inj.mp z); have n6 : ¬ ((V.1 v)).toInt = 7 := fun z => h_26 (Int32.toInt_inj.mp z); have n7 : ¬ ((V.1 v)).toInt = 8 := fun z => h_29 (Int32.toInt_inj.mp z); have n8 : ¬ ((V.1 v)).toInt = 9 := fun z => h_33 (Int32.toInt_inj.mp z); omega)]; rfl) ?_
                    have hk0 : V.1 v = 0 := by rcases hnb.2.2.2 with z | z | z | z | z | z | z | z | z | z <;> first | exact z | (exfalso; contradiction)
                    refine am_steps_r ok_W_putValue 3 (q' := (201, [some (.ref 17), some (.int (nI v)), some (.int (nI dp))], [.ref 1024, .int 1, .ref 17], wd C1 Y og)) rfl ?_
                    refine am_callV_r (As := [.int 1, .ref 1024]) (rest := []) ok_W_putValue rfl rfl ok_W_putMark oi_W_putMark lk_4_111 (Or.inl ⟨_, _, _, rfl, rfl, rfl⟩) rfl rfl (Nat.le_of_ble_eq_true rfl) (c_W_putMark _ C Y og kp rd A hk hkp hr hrd bf L (by omega) C1 h1 1 (by omega) 24 _ _ _ st_24 rfl (by decide) hfm (by have hq : st_24.length < 20 := (by decide); simp only [List.length_append]; omega)) ?_
                    rintro v_ w_ ⟨rfl, C_34, rfl, hC_35⟩ -
                    refine am_eq_r (q' := (204, [some (.ref 17), some (.int (nI v)), some (.int (nI dp))], [], wd C_34 Y og)) rfl ?_
                    refine am_vret_r ok_W_putValue rfl rfl rfl ?_
                    exact ⟨rfl, _, rfl, by rw [wVl_0 hk0]; exact hC_35⟩
/-- at every depth -/
theorem c_W_putValue (C : wd_C) (Y : wd_Y) (og : Nat → Int64) (kp rd : Nat) (A : Nat → Int32) (hk : C.1 13 = nI kp) (hkp : kp ≤ 1) (hr : C.1 14 = nI rd) (hrd : rd ≤ 1) (hfm : fm = .null ∨ fm = .ref 3000) (nv u : Nat) (V : VT) (hS : vsC C nv u V) (ht : Nat → Nat) (hg : hG nv V ht) : ∀ (e d dp : Nat), dp + e = 8 → ∀ (bf : Nat) (L : List Int32) (C1 : wd_C) (x : Nat), bf ≤ 5 → C1 = wE C kp A (bf, L) → x < nv → ht x + dp ≤ 8 → ¬ V.1 x = 9 → (wVl rd V (e + 1) (bf, L) x).2.length + 1000 < 2147483648 → am_Mt l D cA ad fm (d + 9 + 2 * e) m_W_putValue [.ref 17, .int (nI x), .int (nI dp)] (wd C1 Y og) (wRt C Y og kp A (wVl rd V (e + 1) (bf, L) x))
  | 0, d, dp, hd, bf, L, C1, x, hbf, h1, hx, hh, hne, hb => c_W_putValue_i d C Y og kp rd A hk hkp hr hrd hfm nv u V hS ht hg dp 0 hd (fun bf L C1 x a1 a2 a3 a4 => absurd a4 (by omega)) x hx hne hh bf L hbf C1 h1 hb
  | e + 1, d, dp, hd, bf, L, C1, x, hbf, h1, hx, hh, hne, hb => by
    have q := c_W_putValue_i (l := l) (D := D) (cA := cA) (ad := ad) (fm := fm) (d + 2 + 2 * e) C Y og kp rd A hk hkp hr hrd hfm nv u V hS ht hg dp (e + 1) hd (fun bf L C1 x a1 a2 a3 a4 a5 => by
      have r := c_W_putValue C Y og kp rd A hk hkp hr hrd hfm nv u V hS ht hg e d (dp + 1) (by omega) bf L C1 x a1 a2 a3 a4 (fun z => by have := ((hg x a3).2.2.2.1 z).1; omega) a5
      rw [show d + 9 + 2 * e = d + 2 + 2 * e + 7 by omega] at r
      exact r) x hx hne hh bf L hbf C1 h1 hb
    rw [show d + 2 + 2 * e + 9 = d + 9 + 2 * (e + 1) by omega] at q
    exact q
set_option maxHeartbeats 4000000 in
set_option maxRecDepth 100000 in
theorem c_W_putValue_s (d : Nat) (C : wd_C) (Y : wd_Y) (og : Nat → Int64) (kp rd : Nat) (A : Nat → Int32) (hk : C.1 13 = nI kp) (hkp : kp ≤ 1) (hr : C.1 14 = nI rd) (hrd : rd ≤ 1) (hfm : fm = .null ∨ fm = .ref 3000) (nv u : Nat) (V : VT) (hS : vsC C nv u V) (ht : Nat → Nat) (hg : hG nv V ht) (IH : ∀ (bf : Nat) (L : List Int32) (C1 : wd_C) (x : Nat), bf ≤ 5 → C1 = wE C kp A (bf, L) → x < nv → ht x + (0 + 1) ≤ 8 → (wVl rd V 8 (bf, L) x).2.length + 1000 < 2147483648 → am_Mt l D cA ad fm (d + 7) m_W_putValue [.ref 17, .int (nI x), .int (nI (0 + 1))] (wd C1 Y og) (wRt C Y og kp A (wVl rd V 8 (bf, L) x))) (v : Nat) (hv : v < nv) (h9 : V.1 v = 9) (bf : Nat) (L : List Int32) (hbf : bf ≤ 5) (C1 : wd_C) (h1 : C1 = wE C kp A (bf, L)) (hb : (wDc rd V 8 (bf, L) ((V.2.2.1 v).headD 0) (V.2.2.2 v).length).2.length + (V.2.2.2 v).length + 1000 < 2147483648) : am_Mt l D cA ad fm (d + 9) m_W_putValue [.ref 17, .int (nI v), .int 0] (wd C1 Y og) (wRt C Y og kp A (wWh rd V (bf, L) v)) := by
  have hnv := hS.1.2.1
  have hl3 := (vsC_bt hS hv).2
  obtain ⟨hh8, dc, hdc, hdc7⟩ := (hg v hv).2.2.2.1 h9
  obtain ⟨r1, r2, r3, r4, r5, r6, r8, r7⟩ := hS.2.1 v hv
  have hdcn : dc < nv := r4 dc (by rw [hdc]; simp)
  have hdch := (hg dc hdcn).1
  have hdc1 : C.2.1 5 v = nI dc := by have := (r7.2 (by rw [h9]; decide)).1; rw [hdc] at this; exact this.1
  have hbq : (wDc rd V 8 (bf, L) dc (V.2.2.2 v).length).2.length + (V.2.2.2 v).length + 1000 < 2147483648 := by have hq := hb; rw [hdc] at hq; exact hq
  have hbk : (wDk rd V 8 (vtSpl V dc st_8) (V.2.2.2 v).length (4, L ++ gpL rd bf 4 ++ st_18) (V.2.2.1 dc)).2.length + 1000 < 2147483648 := by have := wDc_le (rd := rd) (V := V) (f := 8) (bf := bf) (L := L) (v := dc) (m := (V.2.2.2 v).length); omega
  refine am_mt ok_W_putValue (by simp [am_arg, Value.category, m_W_putValue, am_ml]) ?_
  refine am_eq_r (q' := (0, [some (.ref 17), some (.int (nI v)), some (.int 0)], [], wd C1 Y og)) rfl ?_
  refine am_steps_r ok_W_putValue 3 (q' := (5, [some (.ref 17), some (.int (nI v)), some (.int 0)], [.int (nI v), .ref 3], wd C1 Y og)) rfl ?_
  refine am_callV_r (As := [.int (nI v)]) (rest := []) ok_W_putValue rfl rfl ok_V_kindOf oi_V_kindOf lk_4_98 (Or.inl ⟨_, _, _, rfl, rfl, rfl⟩) rfl rfl (Nat.le_of_ble_eq_true rfl) (v_kind _ hS h1 (v := v) hv) ?_
  rintro v_ w_ ⟨rfl, rfl⟩ -
  refine am_eq_r (q' := (8, [some (.ref 17), some (.int (nI v)), some (.int 0)], [.int (V.1 v)], wd C1 Y og)) rfl ?_
  refine am_tsw_r ok_W_putValue rfl (by first | rfl | decide | decide +kernel | simp) ?_
  by_cases h_2 : (V.1 v) = 1
  · skip
    refine am_eq_r (q' := (60, [some (.ref 17), some (.int (nI v)), some (.int 0)], [], wd C1 Y og)) (by rw [am_ts_in h_2]; rfl) ?_
    exact absurd (h_2.symm.trans h9) (by decide)
  · skip
    by_cases h_3 : (V.1 v) = 2
    · skip
      refine am_eq_r (q' := (88, [some (.ref 17), some (.int (nI v)), some (.int 0)], [], wd C1 Y og)) (by rw [am_ts_in h_3]; rfl) ?_
      exact absurd (h_3.symm.trans h9) (by decide)
    · skip
      by_cases h_4 : (V.1 v) = 3
      · skip
        refine am_eq_r (q' := (103, [some (.ref 17), some (.int (nI v)), some (.int 0)], [], wd C1 Y og)) (by rw [am_ts_in h_4]; rfl) ?_
        exact absurd (h_4.symm.trans h9) (by decide)
      · skip
        by_cases h_5 : (V.1 v) = 4
        · skip
          refine am_eq_r (q' := (118, [some (.ref 17), some (.int (nI v)), some (.int 0)], [], wd C1 Y og)) (by rw [am_ts_in h_5]; rfl) ?_
          exact absurd (h_5.symm.trans h9) (by decide)
        · skip
          by_cases h_6 : (V.1 v) = 5
          · skip
            refine am_eq_r (q' := (126, [some (.ref 17), some (.int (nI v)), some (.int 0)], [], wd C1 Y og)) (by rw [am_ts_in h_6]; rfl) ?_
            exact absurd (h_6.symm.trans h9) (by decide)
          · skip
            by_cases h_7 : (V.1 v) = 6
            · skip
              refine am_eq_r (q' := (134, [some (.ref 17), some (.int (nI v)), some (.int 0)], [], wd C1 Y og)) (by rw [am_ts_in h_7]; rfl) ?_
              exact absurd (h_7.symm.trans h9) (by decide)
            · skip
              by_cases h_8 : (V.1 v) = 7
              · skip
                refine am_eq_r (q' := (143, [some (.ref 17), some (.int (nI v)), some (.int 0)], [], wd C1 Y og)) (by rw [am_ts_in h_8]; rfl) ?_
                exact absurd (h_8.symm.trans h9) (by decide)
              · skip
                by_cases h_9 : (V.1 v) = 8
                · skip
                  refine am_eq_r (q' := (153, [some (.ref 17), some (.int (nI v)), some (.int 0)], [], wd C1 Y og)) (by rw [am_ts_in h_9]; rfl) ?_
                  exact absurd (h_9.symm.trans h9) (by decide)
                · skip
                  by_cases h_10 : (V.1 v) = 9
                  · skip
                    refine am_eq_r (q' := (168, [some (.ref 17), some (.int (nI v)), some (.int 0)], [], wd C1 Y og)) (by rw [am_ts_in h_10]; rfl) ?_
                    refine am_steps_r ok_W_putValue 4 (q' := (174, [some (.ref 17), some (.int (nI v)), some (.int 0)], [.int (nI v), .ref 3, .ref 17], wd C1 Y og)) rfl ?_
                    refine am_callV_r (As := [.int (nI v)]) (rest := [.ref 17]) ok_W_putValue rfl rfl ok_V_firstOf oi_V_firstOf lk_4_137 (Or.inl ⟨_, _, _, rfl, rfl, rfl⟩) rfl rfl (Nat.le_of_ble_eq_true rfl) (v_first _ hS h1 (v := v) hv) ?_
                    rintro v_ w_ ⟨rfl, rfl⟩ -
                    rw [hdc1]
                    refine am_eq_r (q' := (177, [some (.ref 17), some (.int (nI v)), some (.int 0)], [.int (nI dc), .ref 17], wd C1 Y og)) rfl ?_
                    refine am_steps_r ok_W_putValue 3 (q' := (182, [some (.ref 17), some (.int (nI v)), some (.int 0)], [.int (nI v), .ref 3, .int (nI dc), .ref 17], wd C1 Y og)) rfl ?_
                    refine am_callV_r (As := [.int (nI v)]) (rest := [.int (nI dc), .ref 17]) ok_W_putValue rfl rfl ok_V_lengthOf oi_V_lengthOf lk_4_140 (Or.inl ⟨_, _, _, rfl, rfl, rfl⟩) rfl rfl (Nat.le_of_ble_eq_true rfl) (v_len _ hS h1 (v := v) hv) ?_
                    rintro v_ w_ ⟨rfl, rfl⟩ -
                    refine am_eq_r (q' := (185, [some (.ref 17), some (.int (nI v)), some (.int 0)], [.int (nI ((V.2.2.2 v).length)), .int (nI dc), .ref 17], wd C1 Y og)) rfl ?_
                    refine am_steps_r ok_W_putValue 1 (q' := (186, [some (.ref 17), some (.int (nI v)), some (.int 0)], [.int 0, .int (nI ((V.2.2.2 v).length)), .int (nI dc), .ref 17], wd C1 Y og)) rfl ?_
                    refine am_callV_r (As := [.int (nI dc), .int (nI ((V.2.2.2 v).length)), .int 0]) (rest := []) ok_W_putValue rfl rfl ok_W_putDictionary oi_W_putDictionary lk_4_130 (Or.inl ⟨_, _, _, rfl, rfl, rfl⟩) rfl rfl (Nat.le_of_ble_eq_true rfl) (c_W_putDictionary_s _ C Y og kp rd A hk hkp hr hrd hfm nv u V hS ht hg 0 8 rfl IH dc hdcn hdc7 (by omega) bf L hbf C1 h1 (V.2.2.2 v).length (by omega) (by omega)) ?_
                    rintro v_ w_ ⟨rfl, C_12, rfl, hC_13⟩ -
                    have hbf5 : (wDc rd V 8 (bf, L) dc (V.2.2.2 v).length).1 ≤ 5 := Nat.le_refl 5
                    obtain ⟨b2, L2, hs2⟩ : ∃ b_ L_, wDc rd V 8 (bf, L) dc (V.2.2.2 v).length = (b_, L_) := ⟨_, _, rfl⟩
                    rw [hs2] at hC_13 hbf5
                    have hb52 : b2 ≤ 5 := hbf5
                    have hb2 : L2.length + (V.2.2.2 v).length + 500 < 2147483648 := by have hq := hbq; rw [hs2] at hq; have hq2 : L2.length + (V.2.2.2 v).length + 1000 < 2147483648 := hq; omega
                    refine am_eq_r (q' := (189, [some (.ref 17), some (.int (nI v)), some (.int 0)], [], wd C_12 Y og)) rfl ?_
                    refine am_steps_r ok_W_putValue 2 (q' := (191, [some (.ref 17), some (.int (nI v)), some (.int 0)], [.int (nI v), .ref 17], wd C_12 Y og)) rfl ?_
                    refine am_callV_r (As := [.int (nI v)]) (rest := []) ok_W_putValue rfl rfl ok_W_putStreamBytes oi_W_putStreamBytes lk_4_143 (Or.inl ⟨_, _, _, rfl, rfl, rfl⟩) rfl rfl (Nat.le_of_ble_eq_true rfl) (c_W_putStreamBytes _ C Y og kp rd A hk hkp hr hrd b2 L2 hb52 C_12 hC_13 hfm nv u V hS v hv (by omega)) ?_
                    rintro v_ w_ ⟨rfl, C_14, rfl, hC_15⟩ -
                    refine am_eq_r (q' := (194, [some (.ref 17), some (.int (nI v)), some (.int 0)], [], wd C_14 Y og)) rfl ?_
                    refine am_steps_r ok_W_putValue 1 (q' := (204, [some (.ref 17), some (.int (nI v)), some (.int 0)], [], wd C_14 Y og)) rfl ?_
                    refine am_vret_r ok_W_putValue rfl rfl rfl ?_
                    exact ⟨rfl, _, rfl, by rw [wWh, if_pos h9, hdc]; show _ = wE C kp A ((wDc rd V 8 (bf, L) dc (V.2.2.2 v).length).1, _); rw [show [dc].headD 0 = dc from rfl, hs2]; exact hC_15⟩
                  · skip
                    refine am_eq_r (q' := (197, [some (.ref 17), some (.int (nI v)), some (.int 0)], [], wd C1 Y og)) (by rw [am_ts_out (by have n0 : ¬ ((V.1 v)).toInt = 1 := fun z => h_2 (Int32.toInt_inj.mp z); have n1 : ¬ ((V.1 v)).toInt = 2 := fun z => h_3 (Int32.toInt_inj.mp z); have n2 : ¬ ((V.1 v)).toInt = 3 := fun z => h_4 (Int32.toInt_inj.mp z); have n3 : ¬ ((V.1 v)).toInt = 4 := fun z => h_5 (Int32.toInt_inj.mp z); have n4 : ¬ ((V.1 v)).toInt = 5 := fun z => h_6 (Int32.toInt_inj.mp z); have n5 : ¬ ((V.1 v)).toInt = 6 := fun z => h_7 (Int32.toInt_inj.mp z); have n6 : ¬ ((V.1 v)).toInt = 7 := fun z => h_8 (Int32.toInt_inj.mp z); have n7 : ¬ ((V.1 v)).toInt = 8 := fun z => h_9 (Int32.toInt_inj.mp z); have n8 : ¬ ((V.1 v)).toInt = 9 := fun z => h_10 (Int32.toInt_inj.mp z); omega)]; rfl) ?_
                    exfalso; contradiction
end C97
