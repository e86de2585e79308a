/-! what is checked once: the words, the classes, the rows -/
def sx_allT {α : Type} (f : Nat → α → Bool) : (n : Nat) → sx_T α n → Nat → Nat → Bool
  | 0, t, _, b => (match (t : Option α) with
    | some x => f b x
    | none => true)
  | n + 1, t, m, b => sx_allT f n t.1 (2 * m) b && sx_allT f n t.2 (2 * m) (b + m)
theorem sx_allT_ok {α : Type} {f : Nat → α → Bool} : ∀ (n : Nat) {t : sx_T α n} {m b : Nat}, sx_allT f n t m b = true → ∀ {i : Nat} {x : α}, sx_look n t i = some x → f (b + m * i) x = true
  | 0, t, m, b, h, i, x, hx => by
    unfold sx_look at hx
    cases hi : Nat.beq i 0 with
    | false => rw [hi] at hx; cases hx
    | true =>
      rw [hi] at hx
      have hx : t = some x := hx
      subst hx
      have := Nat.eq_of_beq_eq_true hi
      subst this
      exact h
  | n + 1, t, m, b, h, i, x, hx => by
    unfold sx_allT at h
    rw [Bool.and_eq_true] at h
    unfold sx_look at hx
    cases hi : Nat.beq (i % 2) 0 with
    | true =>
      rw [hi] at hx
      have h2 := sx_allT_ok n h.1 hx
      have e := Nat.eq_of_beq_eq_true hi
      rw [show b + m * i = b + 2 * m * (i / 2) by rw [Nat.mul_comm 2 m, Nat.mul_assoc, show 2 * (i / 2) = i by omega]]
      exact h2
    | false =>
      rw [hi] at hx
      have h2 := sx_allT_ok n h.2 hx
      have e := Nat.ne_of_beq_eq_false hi
      have e2 : m * (2 * (i / 2) + 1) = m * i := by rw [show 2 * (i / 2) + 1 = i by omega]
      rw [Nat.mul_add, Nat.mul_one] at e2
      rw [show b + m * i = b + m + 2 * m * (i / 2) by rw [← e2, Nat.mul_comm 2 m, Nat.mul_assoc]; omega]
      exact h2
def sx_AllT {α : Type} (f : α → Prop) : (n : Nat) → sx_T α n → Prop
  | 0, t => (match (t : Option α) with
    | some x => f x
    | none => True)
  | n + 1, t => sx_AllT f n t.1 ∧ sx_AllT f n t.2
theorem sx_AllT_emp {α : Type} {f : α → Prop} : ∀ (n : Nat), sx_AllT f n (sx_emp n)
  | 0 => trivial
  | n + 1 => ⟨sx_AllT_emp n, sx_AllT_emp n⟩
theorem sx_AllT_ok {α : Type} {f : α → Prop} : ∀ (n : Nat) {t : sx_T α n}, sx_AllT f n t → ∀ {i : Nat} {x : α}, sx_look n t i = some x → f x
  | 0, t, h, i, x, hx => by
    unfold sx_look at hx
    cases hi : Nat.beq i 0 with
    | false => rw [hi] at hx; cases hx
    | true =>
      rw [hi] at hx
      have hx : t = some x := hx
      subst hx
      exact h
  | n + 1, t, h, i, x, hx => by
    unfold sx_look at hx
    cases hi : Nat.beq (i % 2) 0 with
    | true => rw [hi] at hx; exact sx_AllT_ok n h.1 hx
    | false => rw [hi] at hx; exact sx_AllT_ok n h.2 hx
def sx_fl : List (List Cond) → List Cond
  | [] => []
  | [a] => a
  | a :: b :: l => a ++ sx_fl (b :: l)
theorem sx_fl_in : ∀ {ls : List (List Cond)}, ∀ l ∈ ls, ∀ w ∈ l, w ∈ sx_fl ls
  | [], l, h, w, hw => by cases h
  | [a], l, h, w, hw => by
    rcases List.mem_cons.mp h with rfl | h
    · exact hw
    · cases h
  | a :: b :: ls, l, h, w, hw => by
    unfold sx_fl
    rcases List.mem_cons.mp h with rfl | h
    · exact List.mem_append_left _ hw
    · exact List.mem_append_right _ (sx_fl_in l h w hw)
theorem sx_good : ∀ w ∈ wsL_law, (w.onTables && w.keeps) = true ∨ ∃ ty, w = .arrayClass ty := fun w h => good_of_word (List.all_eq_true.mp (show wsL_law.all goodWord = true by decide +kernel) w h)

set_option maxRecDepth 100000 in
theorem sx_tb_eq : wsL_law = sx_fl sx_tbs ++ wsX120 ++ wsX30 ++ wsX70 ++ wsX110 ++ wsX100 ++ wsJ00 ++ wsX50 ++ wsJx4a65c0 ++ wsX60 ++ wsJ40 ++ wsX40 ++ wsX80 ++ wsX90 ++ wsX20 ++ wsX10 ++ ([] : List Cond) := by
  unfold wsL_law sx_tbs
  rfl
theorem sx_tb_ok : sx_tbOK sx_tbs wsL_law := fun l hl w hw => by
  rw [sx_tb_eq]
  exact List.mem_append_left _ (List.mem_append_left _ (List.mem_append_left _ (List.mem_append_left _ (List.mem_append_left _ (List.mem_append_left _ (List.mem_append_left _ (List.mem_append_left _ (List.mem_append_left _ (List.mem_append_left _ (List.mem_append_left _ (List.mem_append_left _ (List.mem_append_left _ (List.mem_append_left _ (List.mem_append_left _ (List.mem_append_left _ (sx_fl_in l hl w hw))))))))))))))))
theorem sx_cl : ∀ ci, sx_clOK wsL_law ci := fun ci q h => by
  match ci, h with
  | 0, h => cases h; exact ⟨inlJ0, ⟨tyJ0, tyJ0_ok⟩, nmJ0⟩
  | 1, h => cases h; exact ⟨inlJ4, ⟨tyJ4, tyJ4_ok⟩, nmJ4⟩
  | 2, h => cases h; exact ⟨inlJx4a65c, ⟨tyJx4a65c, tyJx4a65c_ok⟩, nmJx4a65c⟩
  | 3, h => cases h; exact ⟨inlX1, ⟨tyX1, tyX1_ok⟩, nmX1⟩
  | 4, h => cases h; exact ⟨inlX2, ⟨tyX2, tyX2_ok⟩, nmX2⟩
  | 5, h => cases h; exact ⟨inlX3, ⟨tyX3, tyX3_ok⟩, nmX3⟩
  | 6, h => cases h; exact ⟨inlX4, ⟨tyX4, tyX4_ok⟩, nmX4⟩
  | 7, h => cases h; exact ⟨inlX5, ⟨tyX5, tyX5_ok⟩, nmX5⟩
  | 8, h => cases h; exact ⟨inlX6, ⟨tyX6, tyX6_ok⟩, nmX6⟩
  | 9, h => cases h; exact ⟨inlX7, ⟨tyX7, tyX7_ok⟩, nmX7⟩
  | 10, h => cases h; exact ⟨inlX8, ⟨tyX8, tyX8_ok⟩, nmX8⟩
  | 11, h => cases h; exact ⟨inlX9, ⟨tyX9, tyX9_ok⟩, nmX9⟩
  | 12, h => cases h; exact ⟨inlX10, ⟨tyX10, tyX10_ok⟩, nmX10⟩
  | 13, h => cases h; exact ⟨inlX11, ⟨tyX11, tyX11_ok⟩, nmX11⟩
  | 14, h => cases h; exact ⟨inlX12, ⟨tyX12, tyX12_ok⟩, nmX12⟩
  | n + 15, h => cases h
noncomputable def sx_okM (M : sx_M) : Bool := Nat.beq (sx_rpc M 0) 0 && sx_allT (fun r x => sx_okR sx_pg sx_tbs M r x) 10 M.2.2.2.2 1 0
