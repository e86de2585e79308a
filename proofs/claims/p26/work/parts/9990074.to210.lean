/-! rows 46 to 210 in the world that the start leaves, for any argument -/
theorem n_thv (ns : Nat) (f : Nat → Int32) (T : List sx_I) : ∀ q ∈ j_th, sx_ev (n_στ ns f T) q.2 = n_στ ns f T q.1 := by
  intro q hq
  have := List.all_eq_true.mp n_th_dec q hq
  rw [Bool.and_eq_true, Bool.and_eq_true, Bool.and_eq_true, Bool.and_eq_true, Bool.and_eq_true] at this
  obtain ⟨⟨⟨⟨⟨h1, h2⟩, -⟩, -⟩, h5⟩, h6⟩ := this
  have h1 : q.1 < 220 := Nat.le_of_ble_eq_true h1
  have h2 : 100 ≤ q.1 := Nat.le_of_ble_eq_true h2
  have h5 := of_decide_eq_true h5
  have h6 := of_decide_eq_true h6
  rw [n_στ_lo (Or.inl h1)]
  unfold n_σ
  repeat rw [if_neg (by omega)]
  rw [if_pos (by omega), h6]
  show q.2.1 + sx_evl (n_στ ns f T) q.2.2 = q.2.1
  rw [h5]
  exact Int.add_zero _
theorem n_210 {ns : Nat} {f : Nat → Int32} (hns : ns < 2 ^ 31) (z : Nat → Nat) : sx_SgF ns f wsL_law sm_L_law 18 726 0 0 z (n_στ ns f (n_txt ns f)) j_46 (j_210 (n_txt ns f).length) :=
  (j_1 (n_thv ns f (n_txt ns f)) (fun z' => n_46 hns (n_txt ns f) z')).trans (j_2 (n_121 ns f z).1 (n_thv ns f (n_txt ns f)) (fun z' => (n_121 ns f z').2.F))
