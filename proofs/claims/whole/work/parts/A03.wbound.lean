/-! the length of what is written stays small; objects, all together -/
section WBD
variable {rd : Nat} {V : VT}
theorem nwL_len : ∀ bs : List Int32, (nwL bs).length ≤ 3 * bs.length
  | [] => by simp [nwL]
  | c :: r => by
    have := nwL_len r
    have h : (nwC c).length ≤ 3 := by unfold nwC hxL; split <;> simp
    simp only [nwL, List.length_append, List.length_cons]
    omega
theorem swL_len : ∀ bs : List Int32, (swL bs).length ≤ 2 * bs.length
  | [] => by simp [swL]
  | c :: r => by
    have := swL_len r
    have h : (swC c).length ≤ 2 := by unfold swC; split <;> simp
    simp only [swL, List.length_append, List.length_cons]
    omega
theorem scL_len {v : Nat} (h : (V.2.2.2 v).length ≤ 2000) : (scL V v).length ≤ 6500 := by
  have a := nwL_len (V.2.2.2 v)
  have b := swL_len (V.2.2.2 v)
  have c1 := fgL_len (abN (V.2.1 v))
  have c2 := fgL_len (abN (V.2.1 v) / 1000000)
  have c3 := frL_len 6 (abN (V.2.1 v) % 1000000)
  have c4 := fgL_len (abN (V.2.1 v) % 1000000000)
  have c5 := fgL_len (abN (V.2.1 v) / 1000000000)
  have ng : ∀ z, (ngL z).length ≤ 1 := fun z => by unfold ngL; split <;> simp
  have n1 := ng (isN (V.2.1 v))
  unfold scL wnL rlL rfL
  split
  · split <;> simp
  split
  · simp only [List.length_append]; omega
  split
  · have i1 : (if 1000000 ≤ abN (V.2.1 v) then fgL (abN (V.2.1 v) / 1000000) else []).length ≤ 9 := by split; exact c2; simp
    have i2 : (if abN (V.2.1 v) = 0 then ([48] : List Int32) else []).length ≤ 1 := by split <;> simp
    simp only [List.length_append, List.length_cons, List.length_nil]; omega
  split
  · simp only [List.length_cons]; omega
  split
  · simp only [List.length_append, List.length_cons, List.length_nil]; omega
  split
  · simp only [List.length_append, List.length_cons, List.length_nil]; omega
  · simp
def wT (V : VT) : Nat → Nat → Nat
  | 0, _ => 0
  | f + 1, v => 7000 + ((V.2.2.1 v).map (wT V f)).sum
theorem fold_ub {f nv : Nat} (hF : ∀ (st : WS) (v : Nat), v < nv → (wVl rd V f st v).2.length ≤ st.2.length + wT V f v) : ∀ (ks : List Nat) (st : WS), (∀ c ∈ ks, c < nv) → (ks.foldl (wVl rd V f) st).2.length ≤ st.2.length + (ks.map (wT V f)).sum
  | [], st, _ => by simp
  | a :: r, st, h => by
    have h1 := hF st a (h a List.mem_cons_self)
    have h2 := fold_ub hF r (wVl rd V f st a) (fun c hc => h c (List.mem_cons_of_mem _ hc))
    simp only [List.foldl_cons, List.map_cons, List.sum_cons]
    omega
theorem wPc_ub (st : WS) (s : Nat) (t : List Int32) : (wPc rd st s t).2.length ≤ st.2.length + 1 + t.length := wPc_len rd st.1 st.2 s t
theorem wVl_ub {nv : Nat} (hk : ∀ v, v < nv → ∀ c ∈ V.2.2.1 v, c < nv) (hb : ∀ v, v < nv → (V.2.2.2 v).length ≤ 2000) : ∀ (f : Nat) (st : WS) (v : Nat), v < nv → (wVl rd V f st v).2.length ≤ st.2.length + wT V f v
  | 0, st, v, _ => Nat.le_add_right _ _
  | f + 1, st, v, hv => by
    have ih := fold_ub (rd := rd) (V := V) (f := f) (nv := nv) (fun st v hv => wVl_ub hk hb f st v hv) (V.2.2.1 v)
    unfold wVl wT
    split
    · have a := wPc_ub (rd := rd) st 4 [91]
      have b := wPc_ub (rd := rd) ((V.2.2.1 v).foldl (wVl rd V f) (wPc rd st 4 [91])) 5 [93]
      have c := ih (wPc rd st 4 [91]) (hk v hv)
      simp only [List.length_cons, List.length_nil] at a b
      omega
    · split
      · have a := wPc_ub (rd := rd) st 4 [60, 60]
        have b := wPc_ub (rd := rd) ((V.2.2.1 v).foldl (wVl rd V f) (wPc rd st 4 [60, 60])) 5 [62, 62]
        have c := ih (wPc rd st 4 [60, 60]) (hk v hv)
        simp only [List.length_cons, List.length_nil] at a b
        omega
      · have a := wPc_ub (rd := rd) st (scS (V.1 v)) (scL V v)
        have b := scL_len (hb v hv)
        omega
theorem wT_flat (f : Nat) : ∀ l : List Nat, (l.map (wT V (f + 1))).sum = 7000 * l.length + ((l.flatMap V.2.2.1).map (wT V f)).sum
  | [] => by simp
  | a :: r => by
    have := wT_flat f r
    have e : wT V (f + 1) a = 7000 + ((V.2.2.1 a).map (wT V f)).sum := rfl
    simp only [List.map_cons, List.sum_cons, List.flatMap_cons, List.map_append, List.sum_append, List.length_cons]
    rw [this, e]
    omega
theorem kids_nd {nv : Nat} (hok : vok nv V) : ∀ l : List Nat, l.Nodup → (∀ v ∈ l, v < nv) → (l.flatMap V.2.2.1).Nodup
  | [], _, _ => by simp
  | a :: r, hn, hr => by
    obtain ⟨n1, n2⟩ := List.nodup_cons.mp hn
    have ha := hr a List.mem_cons_self
    rw [List.flatMap_cons, List.nodup_append]
    refine ⟨(hok.1 a ha).2, kids_nd hok r n2 (fun v hv => hr v (List.mem_cons_of_mem _ hv)), fun x hx y hy e => ?_⟩
    subst e
    obtain ⟨b, hb1, hb2⟩ := List.mem_flatMap.mp hy
    have := hok.2 a b x ha (hr b (List.mem_cons_of_mem _ hb1)) hx hb2
    subst this
    exact n1 hb1
theorem wT_sum {nv : Nat} (hok : vok nv V) (hnv : nv ≤ 300) : ∀ (f : Nat) (l : List Nat), l.Nodup → (∀ v ∈ l, v < nv) → (l.map (wT V f)).sum ≤ 2100000 * f
  | 0, l, _, _ => by
    have : ∀ l : List Nat, (l.map (wT V 0)).sum = 0 := fun l => by induction l with
      | nil => rfl
      | cons a r ih => simp only [List.map_cons, List.sum_cons, ih]; rfl
    rw [this]
    omega
  | f + 1, l, hn, hr => by
    have h1 := nd_len nv l hn hr
    have h2 := wT_sum hok hnv f (l.flatMap V.2.2.1) (kids_nd hok l hn hr) (fun c hc => by
      obtain ⟨b, hb1, hb2⟩ := List.mem_flatMap.mp hc
      exact (hok.1 b (hr b hb1)).1 c hb2)
    rw [wT_flat]
    omega
theorem wT_1 {nv : Nat} (hok : vok nv V) (hnv : nv ≤ 300) (f v : Nat) (hv : v < nv) : wT V f v ≤ 2100000 * f := by
  have := wT_sum hok hnv f [v] (by simp) (by simpa using hv)
  simpa using this
theorem wDk_ub {nv f : Nat} {lk : Option Nat} {m : Nat} (hF : ∀ (st : WS) (v : Nat), v < nv → (wVl rd V (f + 1) st v).2.length ≤ st.2.length + wT V (f + 1) v) : ∀ (n : Nat) (ks : List Nat) (st : WS), ks.length ≤ n → (∀ c ∈ ks, c < nv) → (wDk rd V (f + 1) lk m st ks).2.length ≤ st.2.length + (ks.map (wT V (f + 1))).sum
  | _, [], st, _, _ => by unfold wDk; simp
  | _, [a], st, _, _ => by unfold wDk; simp
  | 0, a :: x :: r, st, h, _ => by simp at h
  | n + 1, a :: x :: r, st, h, hc => by
    rw [wDk]
    have ih := fun st' => wDk_ub (lk := lk) (m := m) hF n r st' (by simp at h; omega) (fun c hcc => hc c (List.mem_cons_of_mem _ (List.mem_cons_of_mem _ hcc)))
    simp only [List.map_cons, List.sum_cons]
    have e : ∀ v, 7000 ≤ wT V (f + 1) v := fun v => by unfold wT; omega
    split
    · have q1 := wLn_len rd st.1 st.2 m
      have q2 := ih (wLn rd st m)
      have q3 := e a
      have q4 : (wLn rd (st.1, st.2) m) = wLn rd st m := rfl
      rw [q4] at q1
      omega
    · have q1 := hF st a (hc a List.mem_cons_self)
      have q2 := hF (wVl rd V (f + 1) st a) x (hc x (List.mem_cons_of_mem _ List.mem_cons_self))
      have q3 := ih (wVl rd V (f + 1) (wVl rd V (f + 1) st a) x)
      omega
theorem wWh_ub {nv : Nat} (hok : vok nv V) (hnv : nv ≤ 300) (hb : ∀ v, v < nv → (V.2.2.2 v).length ≤ 2000) (hst : ∀ v, v < nv → V.1 v = 9 → ∃ c, V.2.2.1 v = [c]) (st : WS) (v : Nat) (hv : v < nv) : (wWh rd V st v).2.length ≤ st.2.length + 22000000 := by
  have hF := fun f => wVl_ub (rd := rd) (V := V) (nv := nv) (fun v hv => (hok.1 v hv).1) hb f
  unfold wWh
  split
  · rename_i h9
    obtain ⟨c, hc⟩ := hst v hv h9
    have hcn : c < nv := (hok.1 v hv).1 c (by rw [hc]; simp)
    rw [hc]
    have hbv := hb v hv
    have q1 := wDk_ub (rd := rd) (V := V) (nv := nv) (f := 7) (lk := vtSpl V c st_8) (m := (V.2.2.2 v).length) (hF 8) _ (V.2.2.1 c) (wPc rd st 4 [60, 60]) (Nat.le_refl _) (hok.1 c hcn).1
    simp only [Nat.reduceAdd] at q1
    have q2 := wT_sum hok hnv 8 (V.2.2.1 c) (hok.1 c hcn).2 (hok.1 c hcn).1
    have q3 := wPc_ub (rd := rd) st 4 [60, 60]
    have q4 : (wDc rd V 8 st c (V.2.2.2 v).length).2.length ≤ (wDk rd V 8 (vtSpl V c st_8) (V.2.2.2 v).length (wPc rd st 4 [60, 60]) (V.2.2.1 c)).2.length + 40 := by
      unfold wDc
      have r1 := fun s : WS => wPc_ub (rd := rd) s 5 [62, 62]
      have r2 := fun s : WS => wLn_len rd s.1 s.2 (V.2.2.2 v).length
      simp only [List.length_cons, List.length_nil] at r1
      dsimp only
      split
      · have a1 := r1 (wLn rd (wDk rd V 8 (vtSpl V c st_8) (V.2.2.2 v).length (wPc rd st 4 [60, 60]) (V.2.2.1 c)) (V.2.2.2 v).length)
        have a2 := r2 (wDk rd V 8 (vtSpl V c st_8) (V.2.2.2 v).length (wPc rd st 4 [60, 60]) (V.2.2.1 c))
        have a3 : wLn rd ((wDk rd V 8 (vtSpl V c st_8) (V.2.2.2 v).length (wPc rd st 4 [60, 60]) (V.2.2.1 c)).1, (wDk rd V 8 (vtSpl V c st_8) (V.2.2.2 v).length (wPc rd st 4 [60, 60]) (V.2.2.1 c)).2) (V.2.2.2 v).length = wLn rd (wDk rd V 8 (vtSpl V c st_8) (V.2.2.2 v).length (wPc rd st 4 [60, 60]) (V.2.2.1 c)) (V.2.2.2 v).length := rfl
        rw [a3] at a2
        omega
      · have a1 := r1 (wDk rd V 8 (vtSpl V c st_8) (V.2.2.2 v).length (wPc rd st 4 [60, 60]) (V.2.2.1 c))
        omega
    show ((wDc rd V 8 st c (V.2.2.2 v).length).2 ++ (10 :: st_7 ++ [10]) ++ V.2.2.2 v ++ (10 :: st_9)).length ≤ _
    simp only [List.length_append, List.length_cons, List.length_nil, show st_7.length = 6 from rfl, show st_9.length = 9 from rfl] at q3 ⊢
    omega
  · have q1 := hF 9 st v hv
    have q2 := wT_1 hok hnv 9 v hv
    omega
/-- an object's head -/
def wHd (E : Nat → Nat → Int32) (i : Nat) : List Int32 := fgL (E i 0).toNatClampNeg ++ [32] ++ fgL (E i 1).toNatClampNeg ++ st_25
def wOb (rd : Nat) (V : VT) (E : Nat → Nat → Int32) (st : WS) (i : Nat) : WS :=
  if E i 2 = -1 then st else ((wWh rd V (0, st.2 ++ wHd E i) (E i 2).toNatClampNeg).1, (wWh rd V (0, st.2 ++ wHd E i) (E i 2).toNatClampNeg).2 ++ st_26)
/-- objects from i on -/
def wOs (rd : Nat) (V : VT) (E : Nat → Nat → Int32) : Nat → Nat → WS → WS
  | 0, _, st => st
  | c + 1, i, st => wOs rd V E c (i + 1) (wOb rd V E st i)
theorem wHd_len (E : Nat → Nat → Int32) (i : Nat) : (wHd E i).length ≤ 30 := by
  have a := fgL_len (E i 0).toNatClampNeg
  have b := fgL_len (E i 1).toNatClampNeg
  simp only [wHd, List.length_append, List.length_cons, List.length_nil, show st_25.length = 5 from rfl]
  omega
theorem wOb_ub {nv : Nat} {E : Nat → Nat → Int32} {i : Nat} (hW : ∀ (st : WS) (v : Nat), v < nv → (wWh rd V st v).2.length ≤ st.2.length + 22000000) (hE : E i 2 = -1 ∨ ∃ w, w < nv ∧ E i 2 = nI w) (hnv : nv ≤ 300) (st : WS) : (wOb rd V E st i).2.length ≤ st.2.length + 22001000 := by
  unfold wOb
  split
  · omega
  · rename_i h
    obtain ⟨w, hw, e⟩ := hE.resolve_left h
    have q1 := hW (0, st.2 ++ wHd E i) (E i 2).toNatClampNeg (by rw [e, nI_clamp (by omega)]; exact hw)
    have q2 := wHd_len E i
    have q3 : (0, st.2 ++ wHd E i).2.length = st.2.length + (wHd E i).length := List.length_append
    show ((wWh rd V (0, st.2 ++ wHd E i) (E i 2).toNatClampNeg).2 ++ st_26).length ≤ _
    rw [List.length_append, show st_26.length = 8 from rfl]
    omega
theorem wOs_ub {nv : Nat} {E : Nat → Nat → Int32} (hW : ∀ (st : WS) (v : Nat), v < nv → (wWh rd V st v).2.length ≤ st.2.length + 22000000) (hnv : nv ≤ 300) : ∀ (c i : Nat) (st : WS), (∀ j, i ≤ j → j < i + c → (E j 2 = -1 ∨ ∃ w, w < nv ∧ E j 2 = nI w)) → (wOs rd V E c i st).2.length ≤ st.2.length + 22001000 * c
  | 0, i, st, _ => by simp [wOs]
  | c + 1, i, st, hE => by
    have q1 := wOb_ub hW (hE i (Nat.le_refl _) (by omega)) hnv st
    have q2 := wOs_ub hW hnv c (i + 1) (wOb rd V E st i) (fun j j1 j2 => hE j (by omega) (by omega))
    rw [wOs]
    omega
theorem wWh_le {nv : Nat} (st : WS) (v : Nat) : st.2.length ≤ (wWh rd V st v).2.length := by
  unfold wWh
  split
  · show st.2.length ≤ ((wDc rd V 8 st ((V.2.2.1 v).headD 0) (V.2.2.2 v).length).2 ++ (10 :: st_7 ++ [10]) ++ V.2.2.2 v ++ (10 :: st_9)).length
    have a := wDc_le (rd := rd) (V := V) (f := 8) (bf := st.1) (L := st.2) (v := (V.2.2.1 v).headD 0) (m := (V.2.2.2 v).length)
    have b := wDk_le (rd := rd) (V := V) (f := 8) (lk := vtSpl V ((V.2.2.1 v).headD 0) st_8) (m := (V.2.2.2 v).length) _ (V.2.2.1 ((V.2.2.1 v).headD 0)) (4, st.2 ++ gpL rd st.1 4 ++ st_18) (Nat.le_refl _)
    have c : st.2.length ≤ (4, st.2 ++ gpL rd st.1 4 ++ st_18).2.length := by
      show _ ≤ (st.2 ++ gpL rd st.1 4 ++ st_18).length
      simp only [List.length_append]; omega
    have e : wDc rd V 8 (st.1, st.2) ((V.2.2.1 v).headD 0) (V.2.2.2 v).length = wDc rd V 8 st ((V.2.2.1 v).headD 0) (V.2.2.2 v).length := rfl
    rw [e] at a
    simp only [List.length_append]
    omega
  · exact wVl_le 9 st v
theorem wWh_bf (st : WS) (v : Nat) (h : st.1 ≤ 5) : (wWh rd V st v).1 ≤ 5 := by
  unfold wWh
  split
  · exact Nat.le_refl 5
  · exact wVl_bf 9 st v h
end WBD
