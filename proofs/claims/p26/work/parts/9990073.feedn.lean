/-! rows 121 to 210, with the numbers of the argument -/
theorem sx_evl_cong {σ τ : Nat → Int} : ∀ {l : List (Nat × Int)}, (∀ q ∈ l, σ q.1 = τ q.1) → sx_evl σ l = sx_evl τ l
  | [], _ => rfl
  | q :: t, h => by
    show q.2 * σ q.1 + sx_evl σ t = q.2 * τ q.1 + sx_evl τ t
    rw [h q List.mem_cons_self, sx_evl_cong (fun x hx => h x (List.mem_cons_of_mem _ hx))]
theorem sx_ev_cong {σ τ : Nat → Int} {e : sx_I} (h : ∀ q ∈ e.2, σ q.1 = τ q.1) : sx_ev σ e = sx_ev τ e := by
  show e.1 + sx_evl σ e.2 = e.1 + sx_evl τ e.2
  rw [sx_evl_cong h]
def f_low (e : sx_I) : Bool := e.2.all (fun q => Nat.blt q.1 20)
theorem f_all_low : f_all.all (fun t => t.2.2.2.2.2.2.all f_low) = true := by decide +kernel
theorem f_bytes_low {r o : Nat} {V : List (Nat × sx_I)} : ∀ e ∈ f_bytes r o V, f_low e = true := by
  intro e he
  unfold f_bytes at he
  cases hf : f_find r o V with
  | none => rw [hf] at he; cases he
  | some t =>
    rw [hf] at he
    exact List.all_eq_true.mp (List.all_eq_true.mp f_all_low t (f_find_ok hf).1) e he
theorem f_txt_low : ∀ (gs : List f_G) (Vs : List f_V) (o : Nat), ∀ e ∈ f_txt gs Vs o, f_low e = true
  | [], _, _, e, he => by cases he
  | _ :: _, [], _, e, he => by cases he
  | g :: gs, V :: Vs, o, e, he => by
    rcases List.mem_append.mp (show e ∈ f_bytes g.1 o V.1 ++ f_txt gs Vs (o + (f_bytes g.1 o V.1).length) from he) with he | he
    · exact f_bytes_low e he
    · exact f_txt_low gs Vs _ e he
theorem f_txt_rg {σ : Nat → Int} : ∀ (gs : List f_G) (Vs : List f_V) (r : Nat) (os : List Nat) (r' : Nat) (os' : List Nat) (o : Nat), f_seq r os gs Vs r' os' → o ∈ os → (∀ V ∈ Vs, sx_okB σ V.2) → o + (f_txt gs Vs o).length ∈ os' ∧ ∀ e ∈ f_txt gs Vs o, 0 ≤ sx_ev σ e ∧ sx_ev σ e ≤ 127
  | [], [], r, os, r', os', o, hs, ho, _ => by
    obtain ⟨rfl, rfl⟩ := hs
    exact ⟨ho, fun e he => by cases he⟩
  | [], _ :: _, _, _, _, _, _, hs, _, _ => hs.elim
  | _ :: _, [], _, _, _, _, _, hs, _, _ => hs.elim
  | g :: gs, V :: Vs, r, os, r', os', o, hs, ho, hV => by
    obtain ⟨rfl, rfl, hg, hVg, hs⟩ := hs
    obtain ⟨a1, a2, -⟩ := f_gok_ok hg ho hVg
    obtain ⟨b1, b2⟩ := f_txt_rg gs Vs g.2.1 g.2.2.2.1 r' os' _ hs a1 (fun V hV9 => hV V (List.mem_cons_of_mem _ hV9))
    have e : f_txt (g :: gs) (V :: Vs) o = f_bytes g.1 o V.1 ++ f_txt gs Vs (o + (f_bytes g.1 o V.1).length) := rfl
    rw [e, List.length_append, ← Nat.add_assoc]
    refine ⟨b1, fun x hx => ?_⟩
    rcases List.mem_append.mp hx with hx | hx
    · exact sx_in_ok (hV V List.mem_cons_self) (a2 x hx)
    · exact b2 x hx
theorem f_bs_in : ∀ (T : List sx_I) (i : Nat), ∀ q ∈ f_bs i T, ∃ j, T[j]? = some q.2 ∧ q.1 = i + j
  | [], _, q, hq => (nomatch hq)
  | e :: T, i, q, hq => by
    rcases List.mem_cons.mp (show q ∈ (i, e) :: f_bs (i + 1) T from hq) with rfl | hq
    · exact ⟨0, rfl, rfl⟩
    · obtain ⟨j, h1, h2⟩ := f_bs_in T (i + 1) q hq
      exact ⟨j + 1, h1, by omega⟩
theorem n_abs {x : Int} {a n : Nat} {τ : Nat → Int} (ha : τ a = if x < 0 then -x else x) (hn : τ n = x) : sx_ev τ (n_th n a (decide (x < 0))).2 = τ n := by
  show (0 : Int) + ((bif decide (x < 0) then (-1 : Int) else 1) * τ a + 0) = τ n
  rw [ha, hn]
  by_cases h : x < 0
  · rw [decide_eq_true h, if_pos h]; show (0 : Int) + ((-1) * (-x) + 0) = x; omega
  · rw [decide_eq_false h, if_neg h]; show (0 : Int) + (1 * x + 0) = x; omega
theorem n_abd {x l m : Int} {a : Nat} {τ : Nat → Int} (ha : τ a = if x < 0 then -x else x) (h1 : -m ≤ x) (h2 : x ≤ m) (h3 : 0 ≤ x → l ≤ x) : (n_bd a (decide (x < 0)) l m).2.1 ≤ τ a ∧ τ a ≤ (n_bd a (decide (x < 0)) l m).2.2 := by
  show (bif decide (x < 0) then (1 : Int) else l) ≤ τ a ∧ τ a ≤ m
  rw [ha]
  by_cases h : x < 0
  · rw [decide_eq_true h, if_pos h]; show (1 : Int) ≤ -x ∧ -x ≤ m; omega
  · rw [decide_eq_false h, if_neg h]; show l ≤ x ∧ x ≤ m; have := h3 (by omega); omega
theorem n_ok1 {σ : Nat → Int} {x : Nat × Int × Int} (hx : x.2.1 ≤ σ x.1 ∧ σ x.1 ≤ x.2.2) : sx_okB σ [x] := by
  intro q hq
  rcases List.mem_cons.mp hq with rfl | hq
  · exact hx
  · cases hq
theorem n_ok3 {σ : Nat → Int} {x y w : Nat × Int × Int} (hx : x.2.1 ≤ σ x.1 ∧ σ x.1 ≤ x.2.2) (hy : y.2.1 ≤ σ y.1 ∧ σ y.1 ≤ y.2.2) (hw : w.2.1 ≤ σ w.1 ∧ σ w.1 ≤ w.2.2) : sx_okB σ [x, y, w] := by
  intro q hq
  rcases List.mem_cons.mp hq with rfl | hq
  · exact hx
  rcases List.mem_cons.mp hq with rfl | hq
  · exact hy
  rcases List.mem_cons.mp hq with rfl | hq
  · exact hw
  · cases hq
theorem n_e3 {σ : Nat → Int} {x y w : Nat × sx_I} (hx : sx_ev σ x.2 = σ x.1) (hy : sx_ev σ y.2 = σ y.1) (hw : sx_ev σ w.2 = σ w.1) : ∀ q ∈ [x, y, w], sx_ev σ q.2 = σ q.1 := by
  intro q hq
  rcases List.mem_cons.mp hq with rfl | hq
  · exact hx
  rcases List.mem_cons.mp hq with rfl | hq
  · exact hy
  rcases List.mem_cons.mp hq with rfl | hq
  · exact hw
  · cases hq
theorem n_by_rg {ns : Nat} {f : Nat → Int32} : -3 ≤ n_by ns f ∧ n_by ns f ≤ 3 ∧ n_by ns f ≠ 0 := by
  have := n_lo3 (ns := ns) (f := f) (k := 9)
  unfold n_by
  split <;> omega
theorem n_ot_rg {ns : Nat} {f : Nat → Int32} : -2 ≤ n_ot ns f ∧ n_ot ns f ≤ 2 ∧ n_ot ns f ≠ 0 := by
  have := n_lo2 (ns := ns) (f := f) (k := 11)
  unfold n_ot
  split <;> omega
theorem n_mo_rg {ns : Nat} {f : Nat → Int32} : 2 ≤ n_mo ns f ∧ n_mo ns f ≤ 41 := by
  have := n_lo40 (ns := ns) (f := f) (k := 14)
  unfold n_mo
  omega
theorem n_hV (ns : Nat) (f : Nat → Int32) (T : List sx_I) : ∀ V ∈ n_Vs ns f, sx_okB (n_στ ns f T) V.2 ∧ ∀ q ∈ V.1, sx_ev (n_στ ns f T) q.2 = n_στ ns f T q.1 := by
  intro V hV
  have e : ∀ {i : Nat}, (i < 220 ∨ 300 ≤ i) → n_στ ns f T i = n_σ ns f i := fun h => n_στ_lo h
  have a0 : n_στ ns f T 0 = if n_m ns f 0 < 0 then - n_m ns f 0 else n_m ns f 0 := e (by decide)
  have a1 : n_στ ns f T 1 = if n_m ns f 1 < 0 then - n_m ns f 1 else n_m ns f 1 := e (by decide)
  have a2 : n_στ ns f T 2 = if n_m ns f 2 < 0 then - n_m ns f 2 else n_m ns f 2 := e (by decide)
  have a3 : n_στ ns f T 3 = if n_m ns f 3 < 0 then - n_m ns f 3 else n_m ns f 3 := e (by decide)
  have a4 : n_στ ns f T 4 = if n_m ns f 4 < 0 then - n_m ns f 4 else n_m ns f 4 := e (by decide)
  have a5 : n_στ ns f T 5 = if n_m ns f 5 < 0 then - n_m ns f 5 else n_m ns f 5 := e (by decide)
  have a6 : n_στ ns f T 6 = if n_by ns f < 0 then - n_by ns f else n_by ns f := e (by decide)
  have a7 : n_στ ns f T 7 = if n_ot ns f < 0 then - n_ot ns f else n_ot ns f := e (by decide)
  have a8 : n_στ ns f T 8 = n_mo ns f / 10 := e (by decide)
  have a9 : n_στ ns f T 9 = n_mo ns f % 10 := e (by decide)
  have b20 : n_στ ns f T 20 = n_m ns f 0 := e (by decide)
  have b21 : n_στ ns f T 21 = n_m ns f 1 := e (by decide)
  have b22 : n_στ ns f T 22 = n_m ns f 2 := e (by decide)
  have b23 : n_στ ns f T 23 = n_m ns f 3 := e (by decide)
  have b24 : n_στ ns f T 24 = n_m ns f 4 := e (by decide)
  have b25 : n_στ ns f T 25 = n_m ns f 5 := e (by decide)
  have b26 : n_στ ns f T 26 = n_by ns f := e (by decide)
  have b27 : n_στ ns f T 27 = n_ot ns f := e (by decide)
  have b28 : n_στ ns f T 28 = n_lo ns f 12 6 := e (by decide)
  have b29 : n_στ ns f T 29 = n_lo ns f 13 6 := e (by decide)
  have b30 : n_στ ns f T 30 = n_mo ns f := e (by decide)
  have r := fun (k : Nat) => n_m_rg (ns := ns) (f := f) (k := k)
  have rb := n_by_rg (ns := ns) (f := f)
  have ro := n_ot_rg (ns := ns) (f := f)
  have rm := n_mo_rg (ns := ns) (f := f)
  have none9 : ∀ {V : f_V}, V = ([], []) → sx_okB (n_στ ns f T) V.2 ∧ ∀ q ∈ V.1, sx_ev (n_στ ns f T) q.2 = n_στ ns f T q.1 := fun h => by subst h; exact ⟨l_b0, l_e0⟩
  unfold n_Vs at hV
  rcases List.mem_cons.mp hV with h | hV
  · exact none9 h
  rcases List.mem_cons.mp hV with rfl | hV
  · exact ⟨n_ok3 (n_abd a0 (r 0).1 (r 0).2 id) (n_abd a1 (r 1).1 (r 1).2 id) (n_abd a6 rb.1 rb.2.1 (fun h => by omega)), n_e3 (n_abs a0 b20) (n_abs a1 b21) (n_abs a6 b26)⟩
  rcases List.mem_cons.mp hV with rfl | hV
  · exact ⟨l_b0, l_e1 (by rw [b28]; exact sx_ev_c _ _)⟩
  rcases List.mem_cons.mp hV with rfl | hV
  · exact ⟨n_ok3 (n_abd a2 (r 2).1 (r 2).2 id) (n_abd a3 (r 3).1 (r 3).2 id) (n_abd a7 ro.1 ro.2.1 (fun h => by omega)), n_e3 (n_abs a2 b22) (n_abs a3 b23) (n_abs a7 b27)⟩
  rcases List.mem_cons.mp hV with h | hV
  · exact none9 h
  rcases List.mem_cons.mp hV with rfl | hV
  · exact ⟨l_b0, l_e1 (by rw [b29]; exact sx_ev_c _ _)⟩
  rcases List.mem_cons.mp hV with h | hV
  · exact none9 h
  rcases List.mem_cons.mp hV with rfl | hV
  · exact ⟨n_ok1 (n_abd a4 (r 4).1 (r 4).2 id), l_e1 (n_abs a4 b24)⟩
  rcases List.mem_cons.mp hV with h | hV
  · exact none9 h
  rcases List.mem_cons.mp hV with rfl | hV
  · exact ⟨n_ok1 (n_abd a5 (r 5).1 (r 5).2 id), l_e1 (n_abs a5 b25)⟩
  rcases List.mem_cons.mp hV with h | hV
  · exact none9 h
  rcases List.mem_cons.mp hV with rfl | hV
  · by_cases h : n_mo ns f < 10
    · rw [decide_eq_true h]
      exact ⟨n_ok1 (show (2 : Int) ≤ n_στ ns f T 9 ∧ n_στ ns f T 9 ≤ 9 by rw [a9]; omega), l_e1 (by rw [b30, l_ev2, a9]; omega)⟩
    · rw [decide_eq_false h]
      refine ⟨fun q hq => ?_, l_e1 ?_⟩
      · rcases List.mem_cons.mp hq with rfl | hq
        · show (1 : Int) ≤ n_στ ns f T 8 ∧ n_στ ns f T 8 ≤ 4
          rw [a8]; omega
        rcases List.mem_cons.mp hq with rfl | hq
        · show (0 : Int) ≤ n_στ ns f T 9 ∧ n_στ ns f T 9 ≤ 9
          rw [a9]; omega
        · cases hq
      · show (0 : Int) + (10 * n_στ ns f T 8 + (1 * n_στ ns f T 9 + 0)) = n_στ ns f T 30
        rw [a8, a9, b30]; omega
  rcases List.mem_cons.mp hV with h | hV
  · exact none9 h
  · cases hV
theorem n_th_dec : (j_th.all fun q => Nat.blt q.1 220 && Nat.ble 100 q.1 && sx_le 0 q.2.1 && sx_le q.2.1 127 && decide (q.2.2 = []) && decide (sx_lk j_th q.1 = some q.2)) = true := by decide +kernel
/-- rows 121 to 210 -/
theorem n_121 (ns : Nat) (f : Nat → Int32) (z : Nat → Nat) : ((n_txt ns f).length = 40 ∨ (n_txt ns f).length = 60) ∧ sx_Sg wsL_law sm_L_law 18 726 0 0 z (n_στ ns f (n_txt ns f)) (f_pt 121 0) (f_pt 210 (n_txt ns f).length) := by
  have hV := n_hV ns f (n_txt ns f)
  obtain ⟨r1, r2⟩ := f_txt_rg (σ := n_στ ns f (n_txt ns f)) n_Gs (n_Vs ns f) 121 [0] 210 [40, 60] 0 (n_seq ns f) (List.mem_cons_self) (fun V h => (hV V h).1)
  have r1 : 0 + (n_txt ns f).length ∈ [40, 60] := r1
  have hlen : (n_txt ns f).length = 40 ∨ (n_txt ns f).length = 60 := by
    rcases List.mem_cons.mp r1 with h | h
    · exact Or.inl (by omega)
    rcases List.mem_cons.mp h with h | h
    · exact Or.inr (by omega)
    · cases h
  have low : ∀ e ∈ n_txt ns f, sx_ev (n_σ ns f) e = sx_ev (n_στ ns f (n_txt ns f)) e := fun e he => sx_ev_cong (fun q hq => by
    have := List.all_eq_true.mp (f_txt_low n_Gs (n_Vs ns f) 0 e he) q hq
    have : q.1 < 20 := Nat.le_of_ble_eq_true this
    exact (n_στ_lo (Or.inl (by omega))).symm)
  have byte : ∀ j e, (n_txt ns f)[j]? = some e → n_στ ns f (n_txt ns f) (220 + j) = sx_ev (n_στ ns f (n_txt ns f)) e := by
    intro j e hj
    have hl := (List.getElem?_eq_some_iff.mp hj).1
    rw [← low e (List.mem_of_getElem? hj)]
    unfold n_στ
    rw [if_neg (by omega), if_pos (by omega), show 220 + j - 220 = j by omega, hj]
  have hb : ∀ i, 200 ≤ i → i < 300 → 0 ≤ n_στ ns f (n_txt ns f) i ∧ n_στ ns f (n_txt ns f) i ≤ 127 := by
    intro i h1 h2
    by_cases h3 : i < 220
    · rw [n_στ_lo (Or.inl h3)]
      unfold n_σ
      repeat rw [if_neg (by omega)]
      rw [if_pos (by omega)]
      cases hk : sx_lk j_th i with
      | none => exact ⟨Int.le_refl 0, (show (0 : Int) ≤ 127 by decide)⟩
      | some e =>
        have := List.all_eq_true.mp n_th_dec _ (sx_lk_in hk)
        rw [Bool.and_eq_true, Bool.and_eq_true, Bool.and_eq_true, Bool.and_eq_true, Bool.and_eq_true] at this
        exact ⟨(sx_le_iff _ _).mp this.1.1.1.2, (sx_le_iff _ _).mp this.1.1.2⟩
    · obtain ⟨j, rfl⟩ : ∃ j, i = 220 + j := ⟨i - 220, by omega⟩
      cases hj : (n_txt ns f)[j]? with
      | none =>
        unfold n_στ
        rw [if_neg (by omega), if_pos (by omega), show 220 + j - 220 = j by omega, hj]
        exact ⟨Int.le_refl 0, (show (0 : Int) ≤ 127 by decide)⟩
      | some e =>
        rw [byte j e hj]
        exact r2 e (List.mem_of_getElem? hj)
  obtain ⟨-, h9⟩ := f_chain (z := z) hb n_Gs (n_Vs ns f) 121 [0] 210 [40, 60] 0 (n_seq ns f) (List.mem_cons_self) hV (fun q hq => by
    obtain ⟨j, h1, h2⟩ := f_bs_in _ _ q hq
    rw [h2]
    exact (byte j q.2 h1).symm)
  refine ⟨hlen, ?_⟩
  have e0 : 0 + (f_txt n_Gs (n_Vs ns f) 0).length = (n_txt ns f).length := Nat.zero_add _
  rw [e0] at h9
  exact h9
