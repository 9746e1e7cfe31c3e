/-! the component writes; printed by wip/gen/g104.py -/
theorem bz_N (r : Bool) : bz r = nI r.toNat := by cases r <;> rfl
theorem bN_1 (r : Bool) : r.toNat ≤ 1 := by cases r <;> decide
theorem ob1 {C C1 : wd_C} {kp : Nat} {A : Nat → Int32} {s : WS} {no : Nat} {E : Nat → Nat → Int32} (hO : obC C no E) (h1 : C1 = wE C kp A s) : obC C1 no E := by
  subst h1
  exact ⟨hO.1, hO.2.1, hO.2.2⟩
theorem wE_start {C : wd_C} {kp : Nat} : (upd (upd C.1 12 0) 15 0, C.2) = wE C kp (C.2.1 11) (0, []) := by
  show _ = (upd (upd C.1 12 (nI 0)) 15 (nI 0), wd_u C.2.1 11 (pLn kp (C.2.1 11) []), C.2.2)
  rw [show wd_u C.2.1 11 (pLn kp (C.2.1 11) []) = C.2.1 from funext (fun j => by
    unfold wd_u
    split
    · rename_i h
      rw [h]
      funext i
      simp [pLn]
    · rfl)]
  rfl
theorem wOs_s {rd : Nat} {V : VT} {E : Nat → Nat → Int32} {c i : Nat} {st : WS} : wOs rd V E (c + 1) i st = wOs rd V E c (i + 1) (wOb rd V E st i) := rfl
theorem wOb_no {rd : Nat} {V : VT} {E : Nat → Nat → Int32} {i : Nat} {st : WS} (h : E i 2 = -1) : wOb rd V E st i = st := if_pos h
theorem wOb_yes {rd : Nat} {V : VT} {E : Nat → Nat → Int32} {i w : Nat} {st : WS} (h : E i 2 = nI w) (hw : w < 2 ^ 31) : wOb rd V E st i = ((wWh rd V (0, st.2 ++ wHd E i) w).1, (wWh rd V (0, st.2 ++ wHd E i) w).2 ++ st_26) := by
  rw [wOb, if_neg (by rw [h]; exact nI_nm hw), h, nI_clamp hw]
theorem wOs_le {rd : Nat} {V : VT} {E : Nat → Nat → Int32} : ∀ (c i : Nat) (st : WS), st.2.length ≤ (wOs rd V E c i st).2.length
  | 0, i, st => Nat.le_refl _
  | c + 1, i, st => by
    refine Nat.le_trans ?_ (wOs_le c (i + 1) (wOb rd V E st i))
    unfold wOb
    split
    · exact Nat.le_refl _
    · have a := wWh_le (rd := rd) (V := V) (nv := 0) (0, st.2 ++ wHd E i) (E i 2).toNatClampNeg
      have b : st.2.length ≤ (0, st.2 ++ wHd E i).2.length := by
        show _ ≤ (st.2 ++ wHd E i).length
        rw [List.length_append]
        omega
      show st.2.length ≤ ((wWh rd V (0, st.2 ++ wHd E i) (E i 2).toNatClampNeg).2 ++ st_26).length
      rw [List.length_append]
      omega
section C104
variable {l : Launch} {D : va_G} {cA : Nat → ClassId} {ad : Nat → Nat} {fm : Value}
theorem c_W_putTop (d : Nat) (C : wd_C) (Y : wd_Y) (og : Nat → Int64) (kp rd : Nat) (A : Nat → Int32) (hk : C.1 13 = nI kp) (hkp : kp ≤ 1) (hr : C.1 14 = nI rd) (hrd : rd ≤ 1) (hfm : fm = .null ∨ fm = .ref 3000) (nv u : Nat) (V : VT) (hS : vsC C nv u V) (ht : Nat → Nat) (hg : hG nv V ht) (bf : Nat) (L : List Int32) (C1 : wd_C) (x : Nat) (hbf : bf ≤ 5) (h1 : C1 = wE C kp A (bf, L)) (hx : x < nv) (hb : (wWh rd V (bf, L) x).2.length + 1000 < 2147483648) : am_Mt l D cA ad fm (d + 25) m_W_putValue [.ref 17, .int (nI x), .int 0] (wd C1 Y og) (wRt C Y og kp A (wWh rd V (bf, L) x)) := by
  by_cases h9 : V.1 x = 9
  · have hb2 : (wDc rd V 8 (bf, L) ((V.2.2.1 x).headD 0) (V.2.2.2 x).length).2.length + (V.2.2.2 x).length + 1000 < 2147483648 := by
      have e : (wWh rd V (bf, L) x).2 = (wDc rd V 8 (bf, L) ((V.2.2.1 x).headD 0) (V.2.2.2 x).length).2 ++ (10 :: st_7 ++ [10]) ++ V.2.2.2 x ++ (10 :: st_9) := by rw [wWh, if_pos h9]
      rw [e] at hb
      simp only [List.length_append] at hb
      omega
    exact c_W_putValue_s (d + 16) C Y og kp rd A hk hkp hr hrd hfm nv u V hS ht hg (fun bf L C1 y a1 a2 a3 a4 a5 => by
      have r := c_W_putValue (l := l) (D := D) (cA := cA) (ad := ad) (fm := fm) C Y og kp rd A hk hkp hr hrd hfm nv u V hS ht hg 7 d (0 + 1) (by omega) bf L C1 y a1 a2 a3 a4 (fun z => by have := ((hg y a3).2.2.2.1 z).1; omega) a5
      exact r) x hx h9 bf L hbf C1 h1 hb2
  · have e : wWh rd V (bf, L) x = wVl rd V 9 (bf, L) x := by rw [wWh, if_neg h9]
    rw [e] at hb ⊢
    exact c_W_putValue C Y og kp rd A hk hkp hr hrd hfm nv u V hS ht hg 8 d 0 (by omega) bf L C1 x hbf h1 hx (by have := (hg x hx).1; omega) h9 hb
set_option maxHeartbeats 4000000 in
set_option maxRecDepth 100000 in
theorem c_W_putHead (d : Nat) (C : wd_C) (Y : wd_Y) (og : Nat → Int64) (kp rd : Nat) (A : Nat → Int32) (hk : C.1 13 = nI kp) (hkp : kp ≤ 1) (hr : C.1 14 = nI rd) (hrd : rd ≤ 1) (bf : Nat) (L : List Int32) (hbf : bf ≤ 5) (C1 : wd_C) (h1 : C1 = wE C kp A (bf, L)) (hfm : fm = .null ∨ fm = .ref 3000) (no : Nat) (E : Nat → Nat → Int32) (hO : obC C no E) (i : Nat) (hi : i < no) (a g : Nat) (ha : a < 1000000000) (hE0 : E i 0 = nI a) (hg9 : g < 1000000000) (hE1 : E i 1 = nI g) (hb : L.length + 100 < 2147483648) : am_Mt l D cA ad fm (d + 5) m_W_putHead [.ref 17, .int (nI i)] (wd C1 Y og) (fun vr w' => vr = none ∧ ∃ C2, w' = wd C2 Y og ∧ C2 = wE C kp A (0, L ++ wHd E i)) := by
  have hno := hO.2.1
  refine am_mt ok_W_putHead (by simp [am_arg, Value.category, m_W_putHead, am_ml]) ?_
  refine am_eq_r (q' := (0, [some (.ref 17), some (.int (nI i))], [], wd C1 Y og)) rfl ?_
  refine am_steps_r ok_W_putHead 5 (q' := (7, [some (.ref 17), some (.int (nI i))], [.int 0, .int (nI i), .ref 14, .ref 17], wd C1 Y og)) rfl ?_
  refine am_callV_r (As := [.int (nI i), .int 0]) (rest := [.ref 17]) ok_W_putHead rfl rfl ok_O_entry oi_O_entry lk_4_67 (Or.inl ⟨_, _, _, rfl, rfl, rfl⟩) rfl rfl (Nat.le_of_ble_eq_true rfl) (c_O_entry_in _ C1 Y og no (ob1 hO h1).1 hO.2.1 i 0 hi (by omega)) ?_
  rintro v_ w_ ⟨rfl, rfl⟩ -
  rw [((ob1 hO h1).2.2 i hi 0 (by omega)).trans hE0]
  refine am_eq_r (q' := (10, [some (.ref 17), some (.int (nI i))], [.int (nI a), .ref 17], wd C1 Y og)) rfl ?_
  refine am_steps_r ok_W_putHead 1 (q' := (11, [some (.ref 17), some (.int (nI i))], [.long ((nI a).toInt64), .ref 17], wd C1 Y og)) rfl ?_
  rw [show ((nI a).toInt64 : Int64) = lN a from nIl a (by omega)]
  have hfl_1 := fgL_len a
  refine am_callV_r (As := [.long (lN a)]) (rest := []) ok_W_putHead rfl rfl ok_W_putFigures oi_W_putFigures lk_4_71 (Or.inl ⟨_, _, _, rfl, rfl, rfl⟩) rfl rfl (Nat.le_of_ble_eq_true rfl) (c_W_putFigures _ C Y og kp rd A hk hkp hr hrd bf L (by omega) C1 h1 a (by omega) (by first | omega | (simp only [List.length_append, List.length_cons, List.length_nil] at hb ⊢; omega) | (simp only [List.length_append, List.length_cons, List.length_nil]; omega))) ?_
  rintro v_ w_ ⟨rfl, C_2, rfl, hC_3⟩ -
  refine am_eq_r (q' := (14, [some (.ref 17), some (.int (nI i))], [], wd C_2 Y og)) rfl ?_
  refine am_steps_r ok_W_putHead 2 (q' := (17, [some (.ref 17), some (.int (nI i))], [.int 32, .ref 17], wd C_2 Y og)) rfl ?_
  refine am_callV_r (As := [.int 32]) (rest := []) ok_W_putHead rfl rfl ok_W_putByte oi_W_putByte lk_4_75 (Or.inl ⟨_, _, _, rfl, rfl, rfl⟩) rfl rfl (Nat.le_of_ble_eq_true rfl) (c_W_putByte _ C Y og kp rd A hk hkp hr hrd bf (L ++ fgL a) (by omega) C_2 hC_3 32 (by first | omega | (simp only [List.length_append, List.length_cons, List.length_nil] at hb ⊢; omega) | (simp only [List.length_append, List.length_cons, List.length_nil]; omega))) ?_
  rintro v_ w_ ⟨rfl, C_4, rfl, hC_5⟩ -
  refine am_eq_r (q' := (20, [some (.ref 17), some (.int (nI i))], [], wd C_4 Y og)) rfl ?_
  refine am_steps_r ok_W_putHead 5 (q' := (27, [some (.ref 17), some (.int (nI i))], [.int 1, .int (nI i), .ref 14, .ref 17], wd C_4 Y og)) rfl ?_
  refine am_callV_r (As := [.int (nI i), .int 1]) (rest := [.ref 17]) ok_W_putHead rfl rfl ok_O_entry oi_O_entry lk_4_67 (Or.inl ⟨_, _, _, rfl, rfl, rfl⟩) rfl rfl (Nat.le_of_ble_eq_true rfl) (c_O_entry_in _ C_4 Y og no (ob1 hO hC_5).1 hO.2.1 i 1 hi (by omega)) ?_
  rintro v_ w_ ⟨rfl, rfl⟩ -
  rw [((ob1 hO hC_5).2.2 i hi 1 (by omega)).trans hE1]
  refine am_eq_r (q' := (30, [some (.ref 17), some (.int (nI i))], [.int (nI g), .ref 17], wd C_4 Y og)) rfl ?_
  refine am_steps_r ok_W_putHead 1 (q' := (31, [some (.ref 17), some (.int (nI i))], [.long ((nI g).toInt64), .ref 17], wd C_4 Y og)) rfl ?_
  rw [show ((nI g).toInt64 : Int64) = lN g from nIl g (by omega)]
  have hfl_6 := fgL_len g
  refine am_callV_r (As := [.long (lN g)]) (rest := []) ok_W_putHead rfl rfl ok_W_putFigures oi_W_putFigures lk_4_71 (Or.inl ⟨_, _, _, rfl, rfl, rfl⟩) rfl rfl (Nat.le_of_ble_eq_true rfl) (c_W_putFigures _ C Y og kp rd A hk hkp hr hrd bf ((L ++ fgL a) ++ [32]) (by omega) C_4 hC_5 g (by omega) (by first | omega | (simp only [List.length_append, List.length_cons, List.length_nil] at hb ⊢; omega) | (simp only [List.length_append, List.length_cons, List.length_nil]; omega))) ?_
  rintro v_ w_ ⟨rfl, C_7, rfl, hC_8⟩ -
  refine am_eq_r (q' := (34, [some (.ref 17), some (.int (nI i))], [], wd C_7 Y og)) rfl ?_
  refine am_steps_r ok_W_putHead 2 (q' := (37, [some (.ref 17), some (.int (nI i))], [.ref 1025, .ref 17], wd C_7 Y og)) rfl ?_
  refine am_callV_r (As := [.ref 1025]) (rest := []) ok_W_putHead rfl rfl ok_W_putText oi_W_putText lk_4_63 (Or.inl ⟨_, _, _, rfl, rfl, rfl⟩) rfl rfl (Nat.le_of_ble_eq_true rfl) (c_W_putText _ C Y og kp rd A hk hkp hr hrd bf (((L ++ fgL a) ++ [32]) ++ fgL g) (by omega) C_7 hC_8 25 _ _ _ st_25 rfl (by decide) hfm (by have hL9 : st_25.length < 20 := (by decide); first | omega | (simp only [List.length_append, List.length_cons, List.length_nil] at hb ⊢; omega) | (simp only [List.length_append, List.length_cons, List.length_nil]; omega))) ?_
  rintro v_ w_ ⟨rfl, C_9, rfl, hC_10⟩ -
  refine am_eq_r (q' := (40, [some (.ref 17), some (.int (nI i))], [], wd C_9 Y og)) rfl ?_
  refine am_steps_r ok_W_putHead 3 (q' := (45, [some (.ref 17), some (.int (nI i))], [], wd (upd C_9.1 15 0, C_9.2) Y og)) rfl ?_
  refine am_vret_r ok_W_putHead rfl rfl rfl ?_
  refine ⟨rfl, _, rfl, ?_⟩
  rw [wHd, hE0, hE1, nI_clamp (by omega), nI_clamp (by omega), hC_10]
  refine (wE_bf (s := (bf, ((((L ++ fgL a) ++ [32]) ++ fgL g) ++ st_25))) (t := 0)).trans ?_
  simp only [List.append_assoc]
set_option maxHeartbeats 4000000 in
set_option maxRecDepth 100000 in
theorem c_W_goOver_v (d : Nat) (C : wd_C) (Y : wd_Y) (og : Nat → Int64) (kp rd : Nat) (hk : C.1 13 = nI kp) (hkp : kp ≤ 1) (hr : C.1 14 = nI rd) (hrd : rd ≤ 1) (hfm : fm = .null ∨ fm = .ref 3000) (nv u : Nat) (V : VT) (hS : vsC C nv u V) (ht : Nat → Nat) (hg : hG nv V ht) (v : Nat) (hv : v < nv) (hb : (wWh rd V (0, []) v).2.length + 1000 < 2147483648) : am_Mt l D cA ad fm (d + 26) m_W_goOver [.ref 17, .int (nI v), .int 0] (wd C Y og) (wRt C Y og kp (C.2.1 11) (wWh rd V (0, []) v)) := by
  have hnv := hS.1.2.1
  refine am_mt ok_W_goOver (by simp [am_arg, Value.category, m_W_goOver, am_ml]) ?_
  refine am_eq_r (q' := (0, [some (.ref 17), some (.int (nI v)), some (.int 0), none], [], wd C Y og)) rfl ?_
  refine am_steps_r ok_W_goOver 6 (q' := (10, [some (.ref 17), some (.int (nI v)), some (.int 0), none], [], wd (upd (upd C.1 12 0) 15 0, C.2) Y og)) rfl ?_
  obtain ⟨Cz, hCz⟩ : ∃ Z : wd_C, Z = (upd (upd C.1 12 0) 15 0, C.2) := ⟨_, rfl⟩
  rw [← hCz]
  have h1z : Cz = wE C kp (C.2.1 11) (0, []) := by rw [hCz]; exact wE_start
  refine am_eq_r (q' := (10, [some (.ref 17), some (.int (nI v)), some (.int 0), none], [], wd Cz Y og)) rfl ?_
  refine am_steps_r ok_W_goOver 5 (q' := (17, [some (.ref 17), some (.int (nI v)), some (.int 0), none], [.int 0, .int (nI v), .ref 17], wd Cz Y og)) rfl ?_
  refine am_callV_r (As := [.int (nI v), .int 0]) (rest := []) ok_W_goOver rfl rfl ok_W_putValue oi_W_putValue lk_4_44 (Or.inl ⟨_, _, _, rfl, rfl, rfl⟩) rfl rfl (Nat.le_of_ble_eq_true rfl) (c_W_putTop _ C Y og kp rd (C.2.1 11) hk hkp hr hrd hfm nv u V hS ht hg 0 ([]) Cz v (by omega) h1z (by omega) hb) ?_
  rintro v_ w_ ⟨rfl, C_1, rfl, hC_2⟩ -
  have hbbn_3 := wWh_bf (rd := rd) (V := V) (0, []) v (show 0 ≤ 5 by omega)
  obtain ⟨bn_3, Ln_3, hsn_3⟩ : ∃ b_ L_, wWh rd V (0, []) v = (b_, L_) := ⟨_, _, rfl⟩
  rw [hsn_3] at hC_2 hbbn_3
  have hb5n_3 : bn_3 ≤ 5 := hbbn_3
  refine am_eq_r (q' := (20, [some (.ref 17), some (.int (nI v)), some (.int 0), none], [], wd C_1 Y og)) rfl ?_
  refine am_vret_r ok_W_goOver rfl rfl rfl ?_
  exact ⟨rfl, _, rfl, by rw [hsn_3]; exact hC_2⟩
set_option maxHeartbeats 4000000 in
set_option maxRecDepth 100000 in
theorem lp_W_goOver_23 (d : Nat) (C : wd_C) (Y : wd_Y) (og : Nat → Int64) (kp rd : Nat) (hk : C.1 13 = nI kp) (hkp : kp ≤ 1) (hr : C.1 14 = nI rd) (hrd : rd ≤ 1) (hfm : fm = .null ∨ fm = .ref 3000) (nv u : Nat) (V : VT) (hS : vsC C nv u V) (ht : Nat → Nat) (hg : hG nv V ht) (no : Nat) (E : Nat → Nat → Int32) (hO : obC C no E) (hI : obI nv no E) (x0 : Int32)  : ∀ (fu : Nat) (post : Option Value → am_W → Prop) (i : Nat) (bf : Nat) (L : List Int32) (C1 : wd_C), (bf ≤ 5) → (C1 = wE C kp (C.2.1 11) (bf, L)) → (i ≤ no) → ((wOs rd V E (no - i) i (bf, L)).2.length + 2000 < 2147483648) → (∀ C2, C2 = wE C kp (C.2.1 11) (wOs rd V E (no - i) i (bf, L)) → post none (wd C2 Y og)) → no - i < fu → am_Rn l D cA ad fm (d + 26) m_W_goOver (wd C Y og).length post (23, [some (.ref 17), some (.int x0), some (.int 1), some (.int (nI i))], [], wd C1 Y og) := by
  intro fu
  induction fu with
  | zero => intro post i bf L C1 hbf h1 hin hb hpo hfu; exact absurd hfu (Nat.not_lt_zero _)
  | succ fu ih =>
    intro post i bf L C1 hbf h1 hin hb hpo hfu
    have hnv := hS.1.2.1
    have hno := hO.2.1
    refine am_steps_r ok_W_goOver 3 (q' := (28, [some (.ref 17), some (.int x0), some (.int 1), some (.int (nI i))], [.ref 14, .int (nI i)], wd C1 Y og)) rfl ?_
    refine am_callV_r (As := []) (rest := [.int (nI i)]) ok_W_goOver rfl rfl ok_O_size oi_O_size lk_4_48 (Or.inl ⟨_, _, _, rfl, rfl, rfl⟩) rfl rfl (Nat.le_of_ble_eq_true rfl) (c_O_size _ C1 Y og no (ob1 hO h1).1 hO.2.1) ?_
    rintro v_ w_ ⟨rfl, rfl⟩ -
    refine am_eq_r (q' := (31, [some (.ref 17), some (.int x0), some (.int 1), some (.int (nI i))], [.int (nI no), .int (nI i)], wd C1 Y og)) rfl ?_
    refine am_steps_r ok_W_goOver 1 (q' := (bif decide ((nI no) ≤ (nI i)) then 76 else 34, [some (.ref 17), some (.int x0), some (.int 1), some (.int (nI i))], [], wd C1 Y og)) rfl ?_
    refine am_br_r (fun h_2 => ?_) (fun h_2 => ?_)
    · skip
      have h_2 : no ≤ i := (nI_leI (show no < 2 ^ 31 by omega) (show i < 2 ^ 31 by omega)).mp h_2
      refine am_vret_r ok_W_goOver rfl rfl rfl ?_
      exact hpo _ (by rw [show no - i = 0 by omega]; exact h1)
    · skip
      have h_2 : ¬ no ≤ i := fun z => h_2 ((nI_leI (show no < 2 ^ 31 by omega) (show i < 2 ^ 31 by omega)).mpr z)
      refine am_steps_r ok_W_goOver 3 (q' := (39, [some (.ref 17), some (.int x0), some (.int 1), some (.int (nI i))], [.int (nI i), .ref 14], wd C1 Y og)) rfl ?_
      refine am_callV_r (As := [.int (nI i)]) (rest := []) ok_W_goOver rfl rfl ok_O_valueOf oi_O_valueOf lk_4_53 (Or.inl ⟨_, _, _, rfl, rfl, rfl⟩) rfl rfl (Nat.le_of_ble_eq_true rfl) (c_O_valueOf_in _ C1 Y og no E (ob1 hO h1) i (by omega)) ?_
      rintro v_ w_ ⟨rfl, rfl⟩ -
      obtain ⟨hIv, ⟨a, ha, hE0⟩, g, hg9, hE1⟩ := hI i (by omega)
      rcases hIv with ⟨hn2, hn3⟩ | ⟨x, hx1, hx2, hx3⟩
      · skip
        rw [hn2]
        refine am_eq_r (q' := (42, [some (.ref 17), some (.int x0), some (.int 1), some (.int (nI i))], [.int (-1)], wd C1 Y og)) rfl ?_
        have hob := wOb_no (rd := rd) (V := V) (E := E) (i := i) (st := (bf, L)) hn2
        obtain ⟨c, hc⟩ : ∃ c, no - i = c + 1 := ⟨no - i - 1, by omega⟩
        rw [hc, wOs_s, hob] at hb hpo
        refine am_steps_r ok_W_goOver 4 (q' := (23, [some (.ref 17), some (.int x0), some (.int 1), some (.int ((nI i) + 1))], [], wd C1 Y og)) rfl ?_
        rw [show ((nI i) + 1 : Int32) = nI (i + 1) from nI_add i 1]
        have hc2 : no - (i + 1) = c := by omega
        exact ih post (i + 1) bf L C1 (by omega) h1 (by omega) (by rw [hc2]; exact hb) (by rw [hc2]; exact hpo) (by omega)
      · skip
        rw [hx2]
        refine am_eq_r (q' := (42, [some (.ref 17), some (.int x0), some (.int 1), some (.int (nI i))], [.int (nI x)], wd C1 Y og)) rfl ?_
        have hob := wOb_yes (rd := rd) (V := V) (E := E) (i := i) (w := x) (st := (bf, L)) hx2 (by omega)
        obtain ⟨c, hc⟩ : ∃ c, no - i = c + 1 := ⟨no - i - 1, by omega⟩
        rw [hc, wOs_s, hob] at hb hpo
        have hbv : (wWh rd V (0, L ++ wHd E i) x).2.length + 2000 < 2147483648 := by have q := wOs_le (rd := rd) (V := V) (E := E) c (i + 1) ((wWh rd V (0, L ++ wHd E i) x).1, (wWh rd V (0, L ++ wHd E i) x).2 ++ st_26); simp only [List.length_append] at q hb; omega
        have hbh : L.length + 2000 < 2147483648 := by have q := wWh_le (rd := rd) (V := V) (nv := 0) (0, L ++ wHd E i) x; have q2 : L.length ≤ (0, L ++ wHd E i).2.length := (by show _ ≤ (L ++ wHd E i).length; rw [List.length_append]; omega); omega
        refine am_steps_r ok_W_goOver 2 (q' := (bif decide ((nI x) = (-1)) then 70 else 46, [some (.ref 17), some (.int x0), some (.int 1), some (.int (nI i))], [], wd C1 Y og)) rfl ?_
        refine am_br_r (fun h_3 => ?_) (fun h_3 => ?_)
        · skip
          exact absurd h_3 (nI_nm (show x < 2 ^ 31 by omega))
        · skip
          refine am_steps_r ok_W_goOver 2 (q' := (48, [some (.ref 17), some (.int x0), some (.int 1), some (.int (nI i))], [.int (nI i), .ref 17], wd C1 Y og)) rfl ?_
          refine am_callV_r (As := [.int (nI i)]) (rest := []) ok_W_goOver rfl rfl ok_W_putHead oi_W_putHead lk_4_57 (Or.inl ⟨_, _, _, rfl, rfl, rfl⟩) rfl rfl (Nat.le_of_ble_eq_true rfl) (c_W_putHead _ C Y og kp rd (C.2.1 11) hk hkp hr hrd bf L (by omega) C1 h1 hfm no E hO i (by omega) a g ha hE0 hg9 hE1 (by omega)) ?_
          rintro v_ w_ ⟨rfl, C_4, rfl, hC_5⟩ -
          refine am_eq_r (q' := (51, [some (.ref 17), some (.int x0), some (.int 1), some (.int (nI i))], [], wd C_4 Y og)) rfl ?_
          refine am_steps_r ok_W_goOver 4 (q' := (57, [some (.ref 17), some (.int x0), some (.int 1), some (.int (nI i))], [.int (nI i), .ref 14, .ref 17], wd C_4 Y og)) rfl ?_
          refine am_callV_r (As := [.int (nI i)]) (rest := [.ref 17]) ok_W_goOver rfl rfl ok_O_valueOf oi_O_valueOf lk_4_53 (Or.inl ⟨_, _, _, rfl, rfl, rfl⟩) rfl rfl (Nat.le_of_ble_eq_true rfl) (c_O_valueOf_in _ C_4 Y og no E (ob1 hO hC_5) i (by omega)) ?_
          rintro v_ w_ ⟨rfl, rfl⟩ -
          rw [hx2]
          refine am_eq_r (q' := (60, [some (.ref 17), some (.int x0), some (.int 1), some (.int (nI i))], [.int (nI x), .ref 17], wd C_4 Y og)) rfl ?_
          refine am_steps_r ok_W_goOver 1 (q' := (61, [some (.ref 17), some (.int x0), some (.int 1), some (.int (nI i))], [.int 0, .int (nI x), .ref 17], wd C_4 Y og)) rfl ?_
          refine am_callV_r (As := [.int (nI x), .int 0]) (rest := []) ok_W_goOver rfl rfl ok_W_putValue oi_W_putValue lk_4_44 (Or.inl ⟨_, _, _, rfl, rfl, rfl⟩) rfl rfl (Nat.le_of_ble_eq_true rfl) (c_W_putTop _ C Y og kp rd (C.2.1 11) hk hkp hr hrd hfm nv u V hS ht hg 0 (L ++ wHd E i) C_4 x (by omega) hC_5 (by omega) (by omega)) ?_
          rintro v_ w_ ⟨rfl, C_6, rfl, hC_7⟩ -
          have hbbn_8 := wWh_bf (rd := rd) (V := V) (0, (L ++ wHd E i)) x (show 0 ≤ 5 by omega)
          obtain ⟨bn_8, Ln_8, hsn_8⟩ : ∃ b_ L_, wWh rd V (0, (L ++ wHd E i)) x = (b_, L_) := ⟨_, _, rfl⟩
          rw [hsn_8] at hC_7 hbbn_8
          have hb5n_8 : bn_8 ≤ 5 := hbbn_8
          refine am_eq_r (q' := (64, [some (.ref 17), some (.int x0), some (.int 1), some (.int (nI i))], [], wd C_6 Y og)) rfl ?_
          refine am_steps_r ok_W_goOver 2 (q' := (67, [some (.ref 17), some (.int x0), some (.int 1), some (.int (nI i))], [.ref 1026, .ref 17], wd C_6 Y og)) rfl ?_
          rw [hsn_8] at hbv
          have hbv2 : Ln_8.length + 2000 < 2147483648 := hbv
          refine am_callV_r (As := [.ref 1026]) (rest := []) ok_W_goOver rfl rfl ok_W_putText oi_W_putText lk_4_63 (Or.inl ⟨_, _, _, rfl, rfl, rfl⟩) rfl rfl (Nat.le_of_ble_eq_true rfl) (c_W_putText _ C Y og kp rd (C.2.1 11) hk hkp hr hrd bn_8 Ln_8 (by omega) C_6 hC_7 26 _ _ _ st_26 rfl (by decide) hfm (by have hL9 : st_26.length < 20 := (by decide); simp only [List.length_append]; omega)) ?_
          rintro v_ w_ ⟨rfl, C_9, rfl, hC_10⟩ -
          refine am_eq_r (q' := (70, [some (.ref 17), some (.int x0), some (.int 1), some (.int (nI i))], [], wd C_9 Y og)) rfl ?_
          refine am_steps_r ok_W_goOver 2 (q' := (23, [some (.ref 17), some (.int x0), some (.int 1), some (.int ((nI i) + 1))], [], wd C_9 Y og)) rfl ?_
          rw [show ((nI i) + 1 : Int32) = nI (i + 1) from nI_add i 1]
          have hc2 : no - (i + 1) = c := by omega
          rw [hsn_8] at hb hpo
          exact ih post (i + 1) bn_8 (Ln_8 ++ st_26) C_9 (by omega) hC_10 (by omega) (by rw [hc2]; exact hb) (by rw [hc2]; exact hpo) (by omega)
set_option maxHeartbeats 4000000 in
set_option maxRecDepth 100000 in
theorem c_W_goOver_a (d : Nat) (C : wd_C) (Y : wd_Y) (og : Nat → Int64) (kp rd : Nat) (hk : C.1 13 = nI kp) (hkp : kp ≤ 1) (hr : C.1 14 = nI rd) (hrd : rd ≤ 1) (hfm : fm = .null ∨ fm = .ref 3000) (nv u : Nat) (V : VT) (hS : vsC C nv u V) (ht : Nat → Nat) (hg : hG nv V ht) (no : Nat) (E : Nat → Nat → Int32) (hO : obC C no E) (hI : obI nv no E) (x0 : Int32) (hb : (wOs rd V E no 0 (0, [])).2.length + 2000 < 2147483648) : am_Mt l D cA ad fm (d + 26) m_W_goOver [.ref 17, .int x0, .int 1] (wd C Y og) (wRt C Y og kp (C.2.1 11) (wOs rd V E no 0 (0, []))) := by
  have hnv := hS.1.2.1
  refine am_mt ok_W_goOver (by simp [am_arg, Value.category, m_W_goOver, am_ml]) ?_
  refine am_eq_r (q' := (0, [some (.ref 17), some (.int x0), some (.int 1), none], [], wd C Y og)) rfl ?_
  refine am_steps_r ok_W_goOver 6 (q' := (10, [some (.ref 17), some (.int x0), some (.int 1), none], [], wd (upd (upd C.1 12 0) 15 0, C.2) Y og)) rfl ?_
  obtain ⟨Cz, hCz⟩ : ∃ Z : wd_C, Z = (upd (upd C.1 12 0) 15 0, C.2) := ⟨_, rfl⟩
  rw [← hCz]
  have h1z : Cz = wE C kp (C.2.1 11) (0, []) := by rw [hCz]; exact wE_start
  refine am_eq_r (q' := (10, [some (.ref 17), some (.int x0), some (.int 1), none], [], wd Cz Y og)) rfl ?_
  refine am_steps_r ok_W_goOver 4 (q' := (23, [some (.ref 17), some (.int x0), some (.int 1), some (.int 0)], [], wd Cz Y og)) rfl ?_
  refine am_eq_r (q' := (23, [some (.ref 17), some (.int x0), some (.int 1), some (.int (nI 0))], [], wd Cz Y og)) rfl ?_
  exact lp_W_goOver_23 d C Y og kp rd hk hkp hr hrd hfm nv u V hS ht hg no E hO hI x0 (no + 1) _ 0 0 [] Cz (by omega) h1z (Nat.zero_le _) hb (fun C2 h2 => ⟨rfl, C2, rfl, h2⟩) (by omega)
/-- what writing leaves of the component -/
def wrO (C C' : wd_C) (T : WS) : Prop := (∀ j, j < 11 → C'.1 j = C.1 j) ∧ (∀ j, j ≠ 11 → C'.2.1 j = C.2.1 j) ∧ C'.2.2 = C.2.2 ∧ (T.2.length ≤ 4000 → C'.1 11 = nI T.2.length ∧ ∀ j, j < T.2.length → C'.2.1 11 j = vp_nar .byte (T.2.getD j 0).toInt8.toInt32) ∧ (¬ T.2.length ≤ 4000 → C'.1 11 = C.1 11 ∧ C'.2.1 11 = C.2.1 11)
theorem updL {f : Nat → Int32} {a j : Nat} {x : Int32} (h : j < a) : upd f a x j = f j := by simp [upd]; omega
theorem wduL {f : Nat → Nat → Int32} {a j : Nat} {x : Nat → Int32} (h : j ≠ a) : wd_u f a x j = f j := by simp [wd_u, h]
theorem wrO_no {C C0 C2 : wd_C} {r0 : Int32} {T : WS} (h0 : C0 = (upd (upd C.1 14 r0) 13 0, C.2)) (h2 : C2 = wE C0 0 (C0.2.1 11) T) (hT : ¬ T.2.length ≤ 4000) : wrO C C2 T := by
  subst h0; subst h2
  refine ⟨fun j hj => ?_, fun j hj => wduL hj, rfl, fun z => absurd z hT, fun _ => ⟨rfl, funext (fun i => ?_)⟩⟩
  · show upd (upd (upd (upd C.1 14 r0) 13 0) 12 _) 15 _ j = C.1 j
    rw [updL (by omega), updL (by omega), updL (by omega), updL (by omega)]
  · show pLn 0 (C.2.1 11) T.2 i = C.2.1 11 i
    simp [pLn]
theorem wrO_yes {C C0 C2 C3 C4 : wd_C} {r0 : Int32} {T : WS} (h0 : C0 = (upd (upd C.1 14 r0) 13 0, C.2)) (h2 : C2 = wE C0 0 (C0.2.1 11) T) (h3 : C3 = (upd C2.1 13 1, C2.2)) (h4 : C4 = wE C3 1 (C3.2.1 11) T) (hT : T.2.length ≤ 4000) : wrO C (upd C4.1 11 (nI T.2.length), C4.2) T := by
  subst h0; subst h2; subst h3; subst h4
  refine ⟨fun j hj => ?_, fun j hj => ?_, rfl, fun _ => ⟨rfl, fun j hj => ?_⟩, fun z => absurd hT z⟩
  · show upd (upd (upd (upd (upd (upd (upd (upd C.1 14 r0) 13 0) 12 _) 15 _) 13 1) 12 _) 15 _) 11 _ j = C.1 j
    rw [updL (by omega), updL (by omega), updL (by omega), updL (by omega), updL (by omega), updL (by omega), updL (by omega), updL (by omega)]
  · show wd_u (wd_u C.2.1 11 _) 11 _ j = C.2.1 j
    rw [wduL hj, wduL hj]
  · show pLn 1 _ T.2 j = _
    rw [pLn, if_pos ⟨rfl, by omega, hj⟩]
set_option maxHeartbeats 4000000 in
set_option maxRecDepth 100000 in
theorem c_W_writeAnew_v (d : Nat) (C : wd_C) (Y : wd_Y) (og : Nat → Int64) (r : Bool) (hfm : fm = .null ∨ fm = .ref 3000) (nv u : Nat) (V : VT) (hS : vsC C nv u V) (ht : Nat → Nat) (hg : hG nv V ht) (v : Nat) (hv : v < nv) (hb : (wWh r.toNat V (0, []) v).2.length + 1000 < 2147483648) : am_Mt l D cA ad fm (d + 27) m_W_writeAnew [.ref 17, .int (nI v), .int (bz r), .int 0] (wd C Y og) (fun vr w' => vr = some (.int (if (wWh r.toNat V (0, []) v).2.length ≤ 4000 then nI (wWh r.toNat V (0, []) v).2.length else -1)) ∧ ∃ C', w' = wd C' Y og ∧ wrO C C' (wWh r.toNat V (0, []) v)) := by
  have hnv := hS.1.2.1
  refine am_mt ok_W_writeAnew (by simp [am_arg, Value.category, m_W_writeAnew, am_ml]) ?_
  refine am_eq_r (q' := (0, [some (.ref 17), some (.int (nI v)), some (.int (bz r)), some (.int 0)], [], wd C Y og)) rfl ?_
  refine am_steps_r ok_W_writeAnew 2 (q' := (2, [some (.ref 17), some (.int (nI v)), some (.int (bz r)), some (.int 0)], [.int (bz r), .ref 17], wd C Y og)) rfl ?_
  refine am_putz_r ok_W_writeAnew (cj := 0) rfl rfl (w := wd C Y og) rfl (Nat.le_of_ble_eq_true rfl) (bz_nar _) (bz_fit _) ?_
  refine am_eq_r (q' := (5, [some (.ref 17), some (.int (nI v)), some (.int (bz r)), some (.int 0)], [], wd (upd C.1 14 (bz r), C.2) Y og)) rfl ?_
  refine am_steps_r ok_W_writeAnew 2 (q' := (7, [some (.ref 17), some (.int (nI v)), some (.int (bz r)), some (.int 0)], [.int 0, .ref 17], wd (upd C.1 14 (bz r), C.2) Y og)) rfl ?_
  refine am_putz_r ok_W_writeAnew (cj := 0) rfl rfl (w := wd (upd C.1 14 (bz r), C.2) Y og) rfl (Nat.le_of_ble_eq_true rfl) rfl rfl ?_
  refine am_eq_r (q' := (10, [some (.ref 17), some (.int (nI v)), some (.int (bz r)), some (.int 0)], [], wd (upd (upd C.1 14 (bz r)) 13 0, C.2) Y og)) rfl ?_
  refine am_steps_r ok_W_writeAnew 3 (q' := (13, [some (.ref 17), some (.int (nI v)), some (.int (bz r)), some (.int 0)], [.int 0, .int (nI v), .ref 17], wd (upd (upd C.1 14 (bz r)) 13 0, C.2) Y og)) rfl ?_
  obtain ⟨C0, hC0⟩ : ∃ Z : wd_C, Z = (upd (upd C.1 14 (bz r)) 13 0, C.2) := ⟨_, rfl⟩
  rw [← hC0]
  have hS0 : vsC C0 nv u V := by rw [hC0]; exact vsC_ca hS rfl rfl (fun j j1 j2 => rfl) rfl
  have hk0 : C0.1 13 = nI 0 := by rw [hC0]; rfl
  have hr0 : C0.1 14 = nI r.toNat := by rw [hC0]; exact bz_N r
  refine am_callV_r (As := [.int (nI v), .int 0]) (rest := []) ok_W_writeAnew rfl rfl ok_W_goOver oi_W_goOver lk_4_40 (Or.inl ⟨_, _, _, rfl, rfl, rfl⟩) rfl rfl (Nat.le_of_ble_eq_true rfl) (c_W_goOver_v _ C0 Y og 0 r.toNat hk0 (by omega) hr0 (bN_1 r) hfm nv u V hS0 ht hg v hv hb) ?_
  rintro v_ w_ ⟨rfl, C2, rfl, hC2⟩ -
  have hS2 := vs1 hS0 hC2
  refine am_eq_r (q' := (16, [some (.ref 17), some (.int (nI v)), some (.int (bz r)), some (.int 0)], [], wd C2 Y og)) rfl ?_
  refine am_steps_r ok_W_writeAnew 4 (q' := (bif decide ((C2.1 12) ≤ 4000) then 28 else 26, [some (.ref 17), some (.int (nI v)), some (.int (bz r)), some (.int 0)], [], wd C2 Y og)) rfl ?_
  rw [show (C2.1 12 : Int32) = nI ((wWh r.toNat V (0, []) v).2.length) from (show C2.1 12 = nI (wWh r.toNat V (0, []) v).2.length by rw [hC2]; rfl)]
  refine am_br_r (fun h_1 => ?_) (fun h_1 => ?_)
  · skip
    have h_1 : ((wWh r.toNat V (0, []) v).2.length) ≤ 4000 := (nI_leI (show ((wWh r.toNat V (0, []) v).2.length) < 2 ^ 31 by omega) (show 4000 < 2 ^ 31 by omega)).mp h_1
    refine am_steps_r ok_W_writeAnew 2 (q' := (30, [some (.ref 17), some (.int (nI v)), some (.int (bz r)), some (.int 0)], [.int 1, .ref 17], wd C2 Y og)) rfl ?_
    refine am_putz_r ok_W_writeAnew (cj := 0) rfl rfl (w := wd C2 Y og) rfl (Nat.le_of_ble_eq_true rfl) rfl rfl ?_
    refine am_eq_r (q' := (33, [some (.ref 17), some (.int (nI v)), some (.int (bz r)), some (.int 0)], [], wd (upd C2.1 13 1, C2.2) Y og)) rfl ?_
    refine am_steps_r ok_W_writeAnew 3 (q' := (36, [some (.ref 17), some (.int (nI v)), some (.int (bz r)), some (.int 0)], [.int 0, .int (nI v), .ref 17], wd (upd C2.1 13 1, C2.2) Y og)) rfl ?_
    obtain ⟨C3, hC3⟩ : ∃ Z : wd_C, Z = (upd C2.1 13 1, C2.2) := ⟨_, rfl⟩
    rw [← hC3]
    have hS3 : vsC C3 nv u V := by rw [hC3]; exact vsC_ca hS2 rfl rfl (fun j j1 j2 => rfl) rfl
    have hk3 : C3.1 13 = nI 1 := by rw [hC3]; rfl
    have hr3 : C3.1 14 = nI r.toNat := by rw [hC3]; exact (wE_14 hC2).trans hr0
    refine am_callV_r (As := [.int (nI v), .int 0]) (rest := []) ok_W_writeAnew rfl rfl ok_W_goOver oi_W_goOver lk_4_40 (Or.inl ⟨_, _, _, rfl, rfl, rfl⟩) rfl rfl (Nat.le_of_ble_eq_true rfl) (c_W_goOver_v _ C3 Y og 1 r.toNat hk3 (by omega) hr3 (bN_1 r) hfm nv u V hS3 ht hg v hv hb) ?_
    rintro v_ w_ ⟨rfl, C4, rfl, hC4⟩ -
    refine am_eq_r (q' := (39, [some (.ref 17), some (.int (nI v)), some (.int (bz r)), some (.int 0)], [], wd C4 Y og)) rfl ?_
    refine am_steps_r ok_W_writeAnew 6 (q' := (51, [some (.ref 17), some (.int (nI v)), some (.int (bz r)), some (.int 0)], [.int (C4.1 12)], wd (upd C4.1 11 (C4.1 12), C4.2) Y og)) rfl ?_
    rw [show (C4.1 12 : Int32) = nI ((wWh r.toNat V (0, []) v).2.length) from (show C4.1 12 = nI (wWh r.toNat V (0, []) v).2.length by rw [hC4]; rfl)]
    refine am_iret_r ok_W_writeAnew rfl rfl rfl ?_
    exact ⟨by rw [if_pos (by omega)], _, rfl, wrO_yes hC0 hC2 hC3 hC4 (by omega)⟩
  · skip
    have h_1 : ¬ ((wWh r.toNat V (0, []) v).2.length) ≤ 4000 := fun z => h_1 ((nI_leI (show ((wWh r.toNat V (0, []) v).2.length) < 2 ^ 31 by omega) (show 4000 < 2 ^ 31 by omega)).mpr z)
    refine am_steps_r ok_W_writeAnew 1 (q' := (27, [some (.ref 17), some (.int (nI v)), some (.int (bz r)), some (.int 0)], [.int (-1)], wd C2 Y og)) rfl ?_
    refine am_iret_r ok_W_writeAnew rfl rfl rfl ?_
    exact ⟨by rw [if_neg (by omega)], C2, rfl, wrO_no hC0 hC2 (by omega)⟩
set_option maxHeartbeats 4000000 in
set_option maxRecDepth 100000 in
theorem c_W_writeAnew_a (d : Nat) (C : wd_C) (Y : wd_Y) (og : Nat → Int64) (r : Bool) (hfm : fm = .null ∨ fm = .ref 3000) (nv u : Nat) (V : VT) (hS : vsC C nv u V) (ht : Nat → Nat) (hg : hG nv V ht) (no : Nat) (E : Nat → Nat → Int32) (hO : obC C no E) (hI : obI nv no E) (x0 : Int32) (hb : (wOs r.toNat V E no 0 (0, [])).2.length + 2000 < 2147483648) : am_Mt l D cA ad fm (d + 27) m_W_writeAnew [.ref 17, .int x0, .int (bz r), .int 1] (wd C Y og) (fun vr w' => vr = some (.int (if (wOs r.toNat V E no 0 (0, [])).2.length ≤ 4000 then nI (wOs r.toNat V E no 0 (0, [])).2.length else -1)) ∧ ∃ C', w' = wd C' Y og ∧ wrO C C' (wOs r.toNat V E no 0 (0, []))) := by
  have hnv := hS.1.2.1
  refine am_mt ok_W_writeAnew (by simp [am_arg, Value.category, m_W_writeAnew, am_ml]) ?_
  refine am_eq_r (q' := (0, [some (.ref 17), some (.int x0), some (.int (bz r)), some (.int 1)], [], wd C Y og)) rfl ?_
  refine am_steps_r ok_W_writeAnew 2 (q' := (2, [some (.ref 17), some (.int x0), some (.int (bz r)), some (.int 1)], [.int (bz r), .ref 17], wd C Y og)) rfl ?_
  refine am_putz_r ok_W_writeAnew (cj := 0) rfl rfl (w := wd C Y og) rfl (Nat.le_of_ble_eq_true rfl) (bz_nar _) (bz_fit _) ?_
  refine am_eq_r (q' := (5, [some (.ref 17), some (.int x0), some (.int (bz r)), some (.int 1)], [], wd (upd C.1 14 (bz r), C.2) Y og)) rfl ?_
  refine am_steps_r ok_W_writeAnew 2 (q' := (7, [some (.ref 17), some (.int x0), some (.int (bz r)), some (.int 1)], [.int 0, .ref 17], wd (upd C.1 14 (bz r), C.2) Y og)) rfl ?_
  refine am_putz_r ok_W_writeAnew (cj := 0) rfl rfl (w := wd (upd C.1 14 (bz r), C.2) Y og) rfl (Nat.le_of_ble_eq_true rfl) rfl rfl ?_
  refine am_eq_r (q' := (10, [some (.ref 17), some (.int x0), some (.int (bz r)), some (.int 1)], [], wd (upd (upd C.1 14 (bz r)) 13 0, C.2) Y og)) rfl ?_
  refine am_steps_r ok_W_writeAnew 3 (q' := (13, [some (.ref 17), some (.int x0), some (.int (bz r)), some (.int 1)], [.int 1, .int x0, .ref 17], wd (upd (upd C.1 14 (bz r)) 13 0, C.2) Y og)) rfl ?_
  obtain ⟨C0, hC0⟩ : ∃ Z : wd_C, Z = (upd (upd C.1 14 (bz r)) 13 0, C.2) := ⟨_, rfl⟩
  rw [← hC0]
  have hS0 : vsC C0 nv u V := by rw [hC0]; exact vsC_ca hS rfl rfl (fun j j1 j2 => rfl) rfl
  have hO0 : obC C0 no E := by rw [hC0]; exact ⟨hO.1, hO.2.1, hO.2.2⟩
  have hk0 : C0.1 13 = nI 0 := by rw [hC0]; rfl
  have hr0 : C0.1 14 = nI r.toNat := by rw [hC0]; exact bz_N r
  refine am_callV_r (As := [.int x0, .int 1]) (rest := []) ok_W_writeAnew rfl rfl ok_W_goOver oi_W_goOver lk_4_40 (Or.inl ⟨_, _, _, rfl, rfl, rfl⟩) rfl rfl (Nat.le_of_ble_eq_true rfl) (c_W_goOver_a _ C0 Y og 0 r.toNat hk0 (by omega) hr0 (bN_1 r) hfm nv u V hS0 ht hg no E hO0 hI x0 hb) ?_
  rintro v_ w_ ⟨rfl, C2, rfl, hC2⟩ -
  have hS2 := vs1 hS0 hC2
  have hO2 := ob1 hO0 hC2
  refine am_eq_r (q' := (16, [some (.ref 17), some (.int x0), some (.int (bz r)), some (.int 1)], [], wd C2 Y og)) rfl ?_
  refine am_steps_r ok_W_writeAnew 4 (q' := (bif decide ((C2.1 12) ≤ 4000) then 28 else 26, [some (.ref 17), some (.int x0), some (.int (bz r)), some (.int 1)], [], wd C2 Y og)) rfl ?_
  rw [show (C2.1 12 : Int32) = nI ((wOs r.toNat V E no 0 (0, [])).2.length) from (show C2.1 12 = nI (wOs r.toNat V E no 0 (0, [])).2.length by rw [hC2]; rfl)]
  refine am_br_r (fun h_1 => ?_) (fun h_1 => ?_)
  · skip
    have h_1 : ((wOs r.toNat V E no 0 (0, [])).2.length) ≤ 4000 := (nI_leI (show ((wOs r.toNat V E no 0 (0, [])).2.length) < 2 ^ 31 by omega) (show 4000 < 2 ^ 31 by omega)).mp h_1
    refine am_steps_r ok_W_writeAnew 2 (q' := (30, [some (.ref 17), some (.int x0), some (.int (bz r)), some (.int 1)], [.int 1, .ref 17], wd C2 Y og)) rfl ?_
    refine am_putz_r ok_W_writeAnew (cj := 0) rfl rfl (w := wd C2 Y og) rfl (Nat.le_of_ble_eq_true rfl) rfl rfl ?_
    refine am_eq_r (q' := (33, [some (.ref 17), some (.int x0), some (.int (bz r)), some (.int 1)], [], wd (upd C2.1 13 1, C2.2) Y og)) rfl ?_
    refine am_steps_r ok_W_writeAnew 3 (q' := (36, [some (.ref 17), some (.int x0), some (.int (bz r)), some (.int 1)], [.int 1, .int x0, .ref 17], wd (upd C2.1 13 1, C2.2) Y og)) rfl ?_
    obtain ⟨C3, hC3⟩ : ∃ Z : wd_C, Z = (upd C2.1 13 1, C2.2) := ⟨_, rfl⟩
    rw [← hC3]
    have hS3 : vsC C3 nv u V := by rw [hC3]; exact vsC_ca hS2 rfl rfl (fun j j1 j2 => rfl) rfl
    have hO3 : obC C3 no E := by rw [hC3]; exact ⟨hO2.1, hO2.2.1, hO2.2.2⟩
    have hk3 : C3.1 13 = nI 1 := by rw [hC3]; rfl
    have hr3 : C3.1 14 = nI r.toNat := by rw [hC3]; exact (wE_14 hC2).trans hr0
    refine am_callV_r (As := [.int x0, .int 1]) (rest := []) ok_W_writeAnew rfl rfl ok_W_goOver oi_W_goOver lk_4_40 (Or.inl ⟨_, _, _, rfl, rfl, rfl⟩) rfl rfl (Nat.le_of_ble_eq_true rfl) (c_W_goOver_a _ C3 Y og 1 r.toNat hk3 (by omega) hr3 (bN_1 r) hfm nv u V hS3 ht hg no E hO3 hI x0 hb) ?_
    rintro v_ w_ ⟨rfl, C4, rfl, hC4⟩ -
    refine am_eq_r (q' := (39, [some (.ref 17), some (.int x0), some (.int (bz r)), some (.int 1)], [], wd C4 Y og)) rfl ?_
    refine am_steps_r ok_W_writeAnew 6 (q' := (51, [some (.ref 17), some (.int x0), some (.int (bz r)), some (.int 1)], [.int (C4.1 12)], wd (upd C4.1 11 (C4.1 12), C4.2) Y og)) rfl ?_
    rw [show (C4.1 12 : Int32) = nI ((wOs r.toNat V E no 0 (0, [])).2.length) from (show C4.1 12 = nI (wOs r.toNat V E no 0 (0, [])).2.length by rw [hC4]; rfl)]
    refine am_iret_r ok_W_writeAnew rfl rfl rfl ?_
    exact ⟨by rw [if_pos (by omega)], _, rfl, wrO_yes hC0 hC2 hC3 hC4 (by omega)⟩
  · skip
    have h_1 : ¬ ((wOs r.toNat V E no 0 (0, [])).2.length) ≤ 4000 := fun z => h_1 ((nI_leI (show ((wOs r.toNat V E no 0 (0, [])).2.length) < 2 ^ 31 by omega) (show 4000 < 2 ^ 31 by omega)).mpr z)
    refine am_steps_r ok_W_writeAnew 1 (q' := (27, [some (.ref 17), some (.int x0), some (.int (bz r)), some (.int 1)], [.int (-1)], wd C2 Y og)) rfl ?_
    refine am_iret_r ok_W_writeAnew rfl rfl rfl ?_
    exact ⟨by rw [if_neg (by omega)], C2, rfl, wrO_no hC0 hC2 (by omega)⟩
end C104
