/-! the reference enters a key: the way along its pairs; printed by wip/gen/g39.py -/
theorem gl_or2 {a c : Nat} {r : List Nat} {bf : Option Nat} : (r.getLast?.or (some c)) = ((a :: c :: r).getLast?.or bf) := by
  rw [List.getLast?_cons_cons]
  exact gl_or
section C39
variable {l : Launch} {D : va_G} {cA : Nat → ClassId} {ad : Nat → Nat} {fm : Value}
set_option maxHeartbeats 4000000 in
set_option maxRecDepth 100000 in
theorem lp_M_enter_11 (d : Nat) (C : wd_C) (Y : wd_Y) (og : Nat → Int64) (nv u : Nat) (hV : vsy Y nv u) (v k x : Nat) (hv : v < nv) (hk : k < nv) (hx : x < nv) (bt : Nat → List Int32) (bn : List Int32) (hbn : ybt Y u bn k) : ∀ (m : Nat) (rest : List Nat) (post : Option Value → am_W → Prop) (bf : Option Nat) (xp : Int32), rest.length = 2 * m → lkd (Y.2.1 5) xp rest → (∀ a ∈ rest, a < nv ∧ ybt Y u (bt a) a) → ((keysOf rest).find? (fun a => decide (bt a = bn)) = none → ∀ bv : Int32, am_Rn l D cA ad fm (d + 1) m_M_enter (wd C Y og).length post (48, [some (.ref 19), some (.int (nI v)), some (.int (nI k)), some (.int (nI x)), some (.int bv), some (.int (-1)), none, none], [], wd C Y og)) → (∀ (a : List Nat) (t oo : Nat) (c : List Nat), rest = a ++ t :: oo :: c → (keysOf rest).find? (fun a => decide (bt a = bn)) = some t → am_Rn l D cA ad fm (d + 1) m_M_enter (wd C Y og).length post (48, [some (.ref 19), some (.int (nI v)), some (.int (nI k)), some (.int (nI x)), some (.int (oN (a.getLast?.or bf))), some (.int (nI t)), none, none], [], wd C Y og)) → am_Rn l D cA ad fm (d + 1) m_M_enter (wd C Y og).length post (11, [some (.ref 19), some (.int (nI v)), some (.int (nI k)), some (.int (nI x)), some (.int (oN bf)), some (.int xp), none, none], [], wd C Y og) := by
  have hv1 := hV.2.1
  have hv2 := hV.2.2.2
  intro m
  induction m with
  | zero =>
    intro rest post bf xp hl hc hin hno hso
    have e0 : rest = [] := List.length_eq_zero_iff.mp (by omega)
    subst e0
    have e1 : xp = -1 := hc
    subst e1
    refine am_steps_r ok_M_enter 3 (q' := (48, [some (.ref 19), some (.int (nI v)), some (.int (nI k)), some (.int (nI x)), some (.int (oN bf)), some (.int (-1)), none, none], [], wd C Y og)) rfl ?_
    exact hno rfl _
  | succ m ih =>
    intro rest post bf xp hl hc hin hno hso
    match rest, hl, hc, hin, hno, hso with
    | [], hl, _, _, _, _ => exact absurd hl (by simp only [List.length_nil]; omega)
    | [_], hl, _, _, _, _ => exact absurd hl (by simp only [List.length_cons, List.length_nil]; omega)
    | kk :: vv :: r, hl, hc, hin, hno, hso =>
      obtain ⟨rfl, hc2, hc3⟩ := hc
      obtain ⟨hkn, hkb⟩ := hin kk List.mem_cons_self
      have hvn := (hin vv (List.mem_cons_of_mem _ List.mem_cons_self)).1
      refine am_steps_r ok_M_enter 3 (q' := (bif decide ((nI kk) = (-1)) then 48 else 17, [some (.ref 19), some (.int (nI v)), some (.int (nI k)), some (.int (nI x)), some (.int (oN bf)), some (.int (nI kk)), none, none], [], wd C Y og)) rfl ?_
      refine am_br_r (fun h_1 => ?_) (fun h_1 => ?_)
      · skip
        exact absurd h_1 (nI_nm (show kk < 2 ^ 31 by omega))
      · skip
        refine am_steps_r ok_M_enter 3 (q' := (21, [some (.ref 19), some (.int (nI v)), some (.int (nI k)), some (.int (nI x)), some (.int (oN bf)), some (.int (nI kk)), none, none], [.int (nI k), .int (nI kk), .ref 19], wd C Y og)) rfl ?_
        refine am_callV_r (As := [.int (nI kk), .int (nI k)]) (rest := []) ok_M_enter rfl rfl ok_M_areSame oi_M_areSame lk_6_197 (Or.inl ⟨_, _, _, rfl, rfl, rfl⟩) rfl rfl (Nat.le_of_ble_eq_true rfl) (c_M_areSame _ C Y og nv u hV kk k (by omega) (by omega) (bt kk) bn hkb hbn) ?_
        rintro v_ w_ ⟨rfl, rfl⟩ -
        refine am_eq_r (q' := (24, [some (.ref 19), some (.int (nI v)), some (.int (nI k)), some (.int (nI x)), some (.int (oN bf)), some (.int (nI kk)), none, none], [.int (bz (decide (bt kk = bn)))], wd C Y og)) rfl ?_
        refine am_steps_r ok_M_enter 1 (q' := (bif decide ((bz (decide (bt kk = bn))) = 0) then 27 else 48, [some (.ref 19), some (.int (nI v)), some (.int (nI k)), some (.int (nI x)), some (.int (oN bf)), some (.int (nI kk)), none, none], [], wd C Y og)) rfl ?_
        refine am_bz_r (fun h_3 => ?_) (fun h_3 => ?_)
        · skip
          exact hso [] kk vv r rfl (by rw [keysOf, List.find?_cons_of_pos (by simpa using h_3)])
        · skip
          refine am_steps_r ok_M_enter 3 (q' := (33, [some (.ref 19), some (.int (nI v)), some (.int (nI k)), some (.int (nI x)), some (.int (oN bf)), some (.int (nI kk)), none, none], [.int (nI kk), .ref 26], wd C Y og)) rfl ?_
          refine am_iald_r ok_M_enter rfl (w := wd C Y og) (f := Y.2.1 5) rfl rfl (pk_in kk 300 (by omega)) ?_
          rw [nI_clamp (show kk < 2 ^ 31 by omega)]
          rw [hc2]
          refine am_steps_r ok_M_enter 4 (q' := (42, [some (.ref 19), some (.int (nI v)), some (.int (nI k)), some (.int (nI x)), some (.int (nI vv)), some (.int (nI kk)), none, none], [.int (nI vv), .ref 26], wd C Y og)) rfl ?_
          refine am_iald_r ok_M_enter rfl (w := wd C Y og) (f := Y.2.1 5) rfl rfl (pk_in vv 300 (by omega)) ?_
          rw [nI_clamp (show vv < 2 ^ 31 by omega)]
          refine am_steps_r ok_M_enter 2 (q' := (11, [some (.ref 19), some (.int (nI v)), some (.int (nI k)), some (.int (nI x)), some (.int (nI vv)), some (.int (Y.2.1 5 vv)), none, none], [], wd C Y og)) rfl ?_
          have hneg : ¬ decide (bt kk = bn) = true := by rw [h_3]; decide
          refine ih r post (some vv) _ (by simp only [List.length_cons] at hl; omega) hc3 (fun z hz => hin z (List.mem_cons_of_mem _ (List.mem_cons_of_mem _ hz))) (fun hn bv => hno (by rw [keysOf, List.find?_cons_of_neg (by simpa using hneg)]; exact hn) bv) (fun a t oo c e hf => ?_)
          rw [show (a.getLast?.or (some vv)) = ((kk :: vv :: a).getLast?.or bf) from gl_or2]
          exact hso (kk :: vv :: a) t oo c (by rw [e]; rfl) (by rw [keysOf, List.find?_cons_of_neg (by simpa using hneg)]; exact hf)
end C39
