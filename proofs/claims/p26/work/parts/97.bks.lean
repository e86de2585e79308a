/-! what the unknowns of the goal's run mean -/
abbrev gs_P : Type := Int × Int × Int × Int × Int × Int × Int × Int × Int × Nat × Nat
def gs_P.a (q : gs_P) : Int := q.1
def gs_P.b (q : gs_P) : Int := q.2.1
def gs_P.y (q : gs_P) : Int := q.2.2.1
def gs_P.d (q : gs_P) : Int := q.2.2.2.1
def gs_P.e (q : gs_P) : Int := q.2.2.2.2.1
def gs_P.t (q : gs_P) : Int := q.2.2.2.2.2.1
def gs_P.g (q : gs_P) : Int := q.2.2.2.2.2.2.1
def gs_P.h (q : gs_P) : Int := q.2.2.2.2.2.2.2.1
def gs_P.m (q : gs_P) : Int := q.2.2.2.2.2.2.2.2.1
def gs_P.A (q : gs_P) : Nat := q.2.2.2.2.2.2.2.2.2.1
def gs_P.B (q : gs_P) : Nat := q.2.2.2.2.2.2.2.2.2.2
def gs_ok (q : gs_P) : Prop := (-6 ≤ q.a ∧ q.a ≤ 6 ∧ -6 ≤ q.b ∧ q.b ≤ 6 ∧ -6 ≤ q.d ∧ q.d ≤ 6 ∧ -6 ≤ q.e ∧ q.e ≤ 6 ∧ -6 ≤ q.g ∧ q.g ≤ 6 ∧ -6 ≤ q.h ∧ q.h ≤ 6) ∧ (-3 ≤ q.y ∧ q.y ≤ 3 ∧ q.y ≠ 0) ∧ (-2 ≤ q.t ∧ q.t ≤ 2 ∧ q.t ≠ 0) ∧ (q.A < 6 ∧ q.B < 6) ∧ 2 ≤ q.m ∧ q.m ≤ 41
/-- the sign -/
def gs_s : Bool → Int → Prop
  | true, n => n < 0
  | false, n => 0 ≤ n
def gs_bits (q : gs_P) (a b c d e f g h : Bool) : Prop := gs_s a q.a ∧ gs_s b q.b ∧ gs_s c q.y ∧ gs_s d q.d ∧ gs_s e q.e ∧ gs_s f q.t ∧ gs_s g q.g ∧ gs_s h q.h
def gs_op : Nat → Int
  | 0 => 35
  | 1 => 36
  | 2 => 39
  | 3 => 19
  | 4 => 22
  | _ => 24
theorem gs_op_r (k : Nat) : 19 ≤ gs_op k ∧ gs_op k ≤ 39 := by
  unfold gs_op
  split <;> decide
def gs_on (x b y : Int) : Prop := (0 < y → x ≤ b) ∧ (y < 0 → b ≤ x)
def gs_fix (q : gs_P) (σ : Nat → Int) : Prop := σ 37 = q.a ∧ σ 11 = q.b ∧ σ 12 = q.y ∧ σ 32 = q.d ∧ σ 33 = q.e ∧ σ 34 = q.t ∧ σ 35 = q.g ∧ σ 36 = q.h ∧ σ 8 = q.m ∧ σ 28 = gs_op q.A ∧ σ 29 = gs_op q.B
def gs_cnt (n : Int) (σ : Nat → Int) : Prop := 4000 - n ≤ σ 17 ∧ σ 17 ≤ 4000 ∧ 0 ≤ σ 18 ∧ σ 18 ≤ 40 * n ∧ 0 ≤ σ 19 ∧ σ 19 ≤ 1000 + n ∧ 0 ≤ σ 20 ∧ σ 20 ≤ 1000 + n ∧ n ≤ 3800
section GSV
variable {Θ : List (Nat × sx_I)} {σ : Nat → Int}
theorem gs_none {u : Nat} (h : (sx_lk Θ u).isNone = true) : sx_σi Θ σ u = σ u := by
  unfold sx_σi
  cases e : sx_lk Θ u with
  | none => rfl
  | some v => rw [e] at h; cases h
theorem gs_some {u : Nat} {v : sx_I} (h : sx_lk Θ u = some v) : sx_σi Θ σ u = sx_ev σ v := by
  unfold sx_σi
  rw [h]
theorem gs_lo (h : Θ.all (fun q => Nat.blt q.1 1000) = true) : ∀ u, 1000 ≤ u → sx_σi Θ σ u = σ u := gx_σ h
theorem gs_fix_of {q : gs_P} (h : ([37, 11, 12, 32, 33, 34, 35, 36, 8, 28, 29] : List Nat).all (fun u => (sx_lk Θ u).isNone) = true) (hf : gs_fix q σ) : gs_fix q (sx_σi Θ σ) := by
  have k : ∀ u ∈ ([37, 11, 12, 32, 33, 34, 35, 36, 8, 28, 29] : List Nat), sx_σi Θ σ u = σ u := fun u hu => gs_none (List.all_eq_true.mp h u hu)
  unfold gs_fix
  rw [k 37 (by decide), k 11 (by decide), k 12 (by decide), k 32 (by decide), k 33 (by decide), k 34 (by decide), k 35 (by decide), k 36 (by decide), k 8 (by decide), k 28 (by decide), k 29 (by decide)]
  exact hf
def gs_ck (Θ : List (Nat × sx_I)) (u : Nat) (lo hi : Int) : Bool := match sx_lk Θ u with
  | none => bk_le lo 0 && bk_le 0 hi
  | some v => sx_eqL v.2 [(u, 1)] && bk_le lo v.1 && bk_le v.1 hi
theorem gs_ck_ok {u : Nat} {lo hi : Int} (h : gs_ck Θ u lo hi = true) : σ u + lo ≤ sx_σi Θ σ u ∧ sx_σi Θ σ u ≤ σ u + hi := by
  unfold gs_ck at h
  unfold sx_σi
  cases e : sx_lk Θ u with
  | none =>
    rw [e] at h
    simp only [Bool.and_eq_true] at h
    have h1 : lo ≤ 0 := of_decide_eq_true h.1
    have h2 : 0 ≤ hi := of_decide_eq_true h.2
    simp only
    omega
  | some v =>
    rw [e] at h
    simp only [Bool.and_eq_true] at h
    have h0 := sx_eqL_ok h.1.1
    have h1 : lo ≤ v.1 := of_decide_eq_true h.1.2
    have h2 : v.1 ≤ hi := of_decide_eq_true h.2
    have h3 : sx_ev σ v = v.1 + (1 * σ u + 0) := by
      unfold sx_ev
      rw [h0]
      rfl
    simp only
    rw [h3]
    omega
def gs_cks (Θ : List (Nat × sx_I)) (k : Int) : Bool := gs_ck Θ 17 (-k) 0 && gs_ck Θ 18 0 (40 * k) && gs_ck Θ 19 0 k && gs_ck Θ 20 0 k
theorem gs_cnt_of {n k : Int} (h : gs_cks Θ k = true) (hc : gs_cnt n σ) (hn : n + k ≤ 3800) : gs_cnt (n + k) (sx_σi Θ σ) := by
  unfold gs_cks at h
  simp only [Bool.and_eq_true] at h
  obtain ⟨⟨⟨h1, h2⟩, h3⟩, h4⟩ := h
  have h1 := gs_ck_ok (σ := σ) h1
  have h2 := gs_ck_ok (σ := σ) h2
  have h3 := gs_ck_ok (σ := σ) h3
  have h4 := gs_ck_ok (σ := σ) h4
  obtain ⟨c1, c2, c3, c4, c5, c6, c7, c8, c9⟩ := hc
  refine ⟨?_, ?_, ?_, ?_, ?_, ?_, ?_, ?_, ?_⟩ <;> omega
theorem gs_ofNat (n : Nat) : Int.ofNat n = (n : Int) := rfl
theorem gs_neg (n : Nat) : Int.negSucc n = -((n : Int) + 1) := rfl
theorem bk_F0 : bk_F σ [] := fun q hq => nomatch hq
theorem bk_F1 {e : sx_I} {lo hi : Int} {F : bk_Fs} (h : lo ≤ sx_ev σ e ∧ sx_ev σ e ≤ hi) (hF : bk_F σ F) : bk_F σ ((e, lo, hi) :: F) := fun q hq => by
  rcases List.mem_cons.mp hq with rfl | hq
  · exact h
  · exact hF q hq
theorem gs_t0 : ∀ q ∈ ([] : List (Nat × sx_I)), sx_ev σ q.2 = σ q.1 := fun q hq => nomatch hq
theorem gs_t1 {u : Nat} {v : sx_I} {l : List (Nat × sx_I)} (h : sx_ev σ v = σ u) (hl : ∀ q ∈ l, sx_ev σ q.2 = σ q.1) : ∀ q ∈ (u, v) :: l, sx_ev σ q.2 = σ q.1 := fun q hq => by
  rcases List.mem_cons.mp hq with rfl | hq
  · exact h
  · exact hl q hq
theorem gs_F {q : gs_P} {n : Int} {F : bk_Fs} (hq : gs_ok q) (hf : gs_fix q σ) (hc : gs_cnt n σ) (hF : bk_F σ F) : bk_F σ (((.ofNat 0, [(17, .ofNat 1)]), .ofNat 200, .ofNat 4000) :: ((.ofNat 0, [(18, .ofNat 1)]), .ofNat 0, .ofNat 900000) :: ((.ofNat 0, [(19, .ofNat 1)]), .ofNat 0, .ofNat 100000) :: ((.ofNat 0, [(20, .ofNat 1)]), .ofNat 0, .ofNat 36000) :: ((.ofNat 0, [(8, .ofNat 1)]), .ofNat 2, .ofNat 41) :: ((.ofNat 0, [(28, .ofNat 1)]), .ofNat 19, .ofNat 39) :: ((.ofNat 0, [(29, .ofNat 1)]), .ofNat 19, .ofNat 39) :: F) := by
  obtain ⟨c1, c2, c3, c4, c5, c6, c7, c8, c9⟩ := hc
  obtain ⟨f1, f2, f3, f4, f5, f6, f7, f8, f9, f10, f11⟩ := hf
  obtain ⟨-, -, -, -, m1, m2⟩ := hq
  have oA := gs_op_r q.A
  have oB := gs_op_r q.B
  refine bk_F1 ?_ (bk_F1 ?_ (bk_F1 ?_ (bk_F1 ?_ (bk_F1 ?_ (bk_F1 ?_ (bk_F1 ?_ hF)))))) <;> simp only [sx_ev, sx_evl, gs_ofNat] <;> omega
end GSV
theorem gs_q0 {q : gs_P} {a b c d e f g h : Bool} {LB : List (Nat × sx_C)} {z : Nat → Nat} {σ : Nat → Int} {n : Int} (hLB : bk_lb LB = true) (hq : gs_ok q) (hb : gs_bits q a b c d e f g h) (hf : gs_fix q σ) (hc : gs_cnt n σ) (hn : n + 4 ≤ 3800) : ∃ σ' : Nat → Int, gs_fix q σ' ∧ gs_cnt (n + 4) σ' ∧ σ' 16 = q.m ∧ gx_G 40 sm_X8_go 14 560 9 135 z σ (bk_pt 4 xL [] (gp_NEW a b c d e f g h LB) 300) σ' (bk_pt 4 xL [] (gp_B1 a b c d e f g h LB) 300) := by
  have hf0 := hf
  have hc0 := hc
  have hq0 := hq
  obtain ⟨f1, f2, f3, f4, f5, f6, f7, f8, f9, f10, f11⟩ := hf
  obtain ⟨⟨q1, q2, q3, q4, q5, q6, q7, q8, q9, q10, q11, q12⟩, ⟨q13, q14, q15⟩, ⟨q16, q17, q18⟩, ⟨q19, q20⟩, q21, q22⟩ := hq
  obtain ⟨b1, b2, b3, b4, b5, b6, b7, b8⟩ := hb
  exact ⟨sx_σi [(16, (.ofNat 0, [(8, .ofNat 1)])), (17, (.negSucc 3, [(17, .ofNat 1)])), (18, (.ofNat 7, [(18, .ofNat 1)])), (19, (.ofNat 4, [(19, .ofNat 1)])), (20, (.ofNat 4, [(20, .ofNat 1)]))] σ, gs_fix_of rfl hf0, gs_cnt_of rfl hc0 hn, (gs_some rfl).trans (by (simp only [sx_ev, sx_evl, gs_ofNat, gs_neg] ; omega)), gs_lo rfl, tv_q0 a b c d e f g h hLB (gs_F hq0 hf0 hc0 (by (repeat' (first | exact bk_F0 | (refine bk_F1 ?_ ?_))) <;> (simp only [sx_ev, sx_evl, gs_ofNat, gs_neg] ; omega))) (by (repeat' (first | exact gs_t0 | (refine gs_t1 ?_ ?_))) <;> (simp only [sx_ev, sx_evl, gs_ofNat, gs_neg] ; omega))⟩
theorem gs_b1 {q : gs_P} {a b c d e f g h : Bool} {LB : List (Nat × sx_C)} {z : Nat → Nat} {σ : Nat → Int} {n : Int} (hLB : bk_lb LB = true) (hq : gs_ok q) (hb : gs_bits q a b c d e f g h) (hf : gs_fix q σ) (hc : gs_cnt n σ) (hon : gs_on q.a q.b q.y) (hn : n + 7 ≤ 3800) : ∃ σ' : Nat → Int, gs_fix q σ' ∧ gs_cnt (n + 7) σ' ∧ σ' 16 = σ 16 ∧ σ' 10 = q.a ∧ gx_G 40 sm_X8_go 14 560 9 135 z σ (bk_pt 4 xL [] (gp_B1 a b c d e f g h LB) 300) σ' (bk_pt 4 xL [] (gp_QB a b c d e f g h LB) 300) := by
  have hf0 := hf
  have hc0 := hc
  have hq0 := hq
  obtain ⟨f1, f2, f3, f4, f5, f6, f7, f8, f9, f10, f11⟩ := hf
  obtain ⟨⟨q1, q2, q3, q4, q5, q6, q7, q8, q9, q10, q11, q12⟩, ⟨q13, q14, q15⟩, ⟨q16, q17, q18⟩, ⟨q19, q20⟩, q21, q22⟩ := hq
  obtain ⟨b1, b2, b3, b4, b5, b6, b7, b8⟩ := hb
  have h9 := hon
  unfold gs_on at h9
  rcases Int.lt_trichotomy (q.a) (q.b) with ho | ho | ho <;> cases a <;> cases b <;> cases c <;> simp only [gs_s] at b1 b2 b3
  · exact ⟨sx_σi [(10, (.ofNat 0, [(37, .ofNat 1)])), (17, (.negSucc 3, [(17, .ofNat 1)])), (18, (.ofNat 9, [(18, .ofNat 1)])), (19, (.ofNat 4, [(19, .ofNat 1)])), (20, (.ofNat 4, [(20, .ofNat 1)]))] σ, gs_fix_of rfl hf0, gs_cnt_of rfl hc0 hn, gs_none rfl, (gs_some rfl).trans (by (simp only [sx_ev, sx_evl, gs_ofNat, gs_neg] ; omega)), gs_lo rfl, tv_b1_000_m d e f g h hLB (gs_F hq0 hf0 hc0 (by (repeat' (first | exact bk_F0 | (refine bk_F1 ?_ ?_))) <;> (simp only [sx_ev, sx_evl, gs_ofNat, gs_neg] ; omega))) (by (repeat' (first | exact gs_t0 | (refine gs_t1 ?_ ?_))) <;> (simp only [sx_ev, sx_evl, gs_ofNat, gs_neg] ; omega))⟩
  · exfalso
    omega
  · exact ⟨sx_σi [(10, (.ofNat 0, [(37, .ofNat 1)])), (17, (.negSucc 4, [(17, .ofNat 1)])), (18, (.ofNat 13, [(18, .ofNat 1)])), (19, (.ofNat 5, [(19, .ofNat 1)])), (20, (.ofNat 5, [(20, .ofNat 1)]))] σ, gs_fix_of rfl hf0, gs_cnt_of rfl hc0 hn, gs_none rfl, (gs_some rfl).trans (by (simp only [sx_ev, sx_evl, gs_ofNat, gs_neg] ; omega)), gs_lo rfl, tv_b1_010_m d e f g h hLB (gs_F hq0 hf0 hc0 (by (repeat' (first | exact bk_F0 | (refine bk_F1 ?_ ?_))) <;> (simp only [sx_ev, sx_evl, gs_ofNat, gs_neg] ; omega))) (by (repeat' (first | exact gs_t0 | (refine gs_t1 ?_ ?_))) <;> (simp only [sx_ev, sx_evl, gs_ofNat, gs_neg] ; omega))⟩
  · exfalso
    omega
  · exact ⟨sx_σi [(10, (.ofNat 0, [(37, .ofNat 1)])), (17, (.negSucc 4, [(17, .ofNat 1)])), (18, (.ofNat 13, [(18, .ofNat 1)])), (19, (.ofNat 5, [(19, .ofNat 1)])), (20, (.ofNat 5, [(20, .ofNat 1)]))] σ, gs_fix_of rfl hf0, gs_cnt_of rfl hc0 hn, gs_none rfl, (gs_some rfl).trans (by (simp only [sx_ev, sx_evl, gs_ofNat, gs_neg] ; omega)), gs_lo rfl, tv_b1_100_m d e f g h hLB (gs_F hq0 hf0 hc0 (by (repeat' (first | exact bk_F0 | (refine bk_F1 ?_ ?_))) <;> (simp only [sx_ev, sx_evl, gs_ofNat, gs_neg] ; omega))) (by (repeat' (first | exact gs_t0 | (refine gs_t1 ?_ ?_))) <;> (simp only [sx_ev, sx_evl, gs_ofNat, gs_neg] ; omega))⟩
  · exfalso
    omega
  · exact ⟨sx_σi [(10, (.ofNat 0, [(37, .ofNat 1)])), (17, (.negSucc 5, [(17, .ofNat 1)])), (18, (.ofNat 17, [(18, .ofNat 1)])), (19, (.ofNat 6, [(19, .ofNat 1)])), (20, (.ofNat 6, [(20, .ofNat 1)]))] σ, gs_fix_of rfl hf0, gs_cnt_of rfl hc0 hn, gs_none rfl, (gs_some rfl).trans (by (simp only [sx_ev, sx_evl, gs_ofNat, gs_neg] ; omega)), gs_lo rfl, tv_b1_110_m d e f g h hLB (gs_F hq0 hf0 hc0 (by (repeat' (first | exact bk_F0 | (refine bk_F1 ?_ ?_))) <;> (simp only [sx_ev, sx_evl, gs_ofNat, gs_neg] ; omega))) (by (repeat' (first | exact gs_t0 | (refine gs_t1 ?_ ?_))) <;> (simp only [sx_ev, sx_evl, gs_ofNat, gs_neg] ; omega))⟩
  · exfalso
    omega
  · exact ⟨sx_σi [(10, (.ofNat 0, [(37, .ofNat 1)])), (17, (.negSucc 3, [(17, .ofNat 1)])), (18, (.ofNat 9, [(18, .ofNat 1)])), (19, (.ofNat 4, [(19, .ofNat 1)])), (20, (.ofNat 4, [(20, .ofNat 1)]))] σ, gs_fix_of rfl hf0, gs_cnt_of rfl hc0 hn, gs_none rfl, (gs_some rfl).trans (by (simp only [sx_ev, sx_evl, gs_ofNat, gs_neg] ; omega)), gs_lo rfl, tv_b1_000_l d e f g h hLB (gs_F hq0 hf0 hc0 (by (repeat' (first | exact bk_F0 | (refine bk_F1 ?_ ?_))) <;> (simp only [sx_ev, sx_evl, gs_ofNat, gs_neg] ; omega))) (by (repeat' (first | exact gs_t0 | (refine gs_t1 ?_ ?_))) <;> (simp only [sx_ev, sx_evl, gs_ofNat, gs_neg] ; omega))⟩
  · exact ⟨sx_σi [(10, (.ofNat 0, [(37, .ofNat 1)])), (17, (.negSucc 4, [(17, .ofNat 1)])), (18, (.ofNat 13, [(18, .ofNat 1)])), (19, (.ofNat 5, [(19, .ofNat 1)])), (20, (.ofNat 5, [(20, .ofNat 1)]))] σ, gs_fix_of rfl hf0, gs_cnt_of rfl hc0 hn, gs_none rfl, (gs_some rfl).trans (by (simp only [sx_ev, sx_evl, gs_ofNat, gs_neg] ; omega)), gs_lo rfl, tv_b1_001_l d e f g h hLB (gs_F hq0 hf0 hc0 (by (repeat' (first | exact bk_F0 | (refine bk_F1 ?_ ?_))) <;> (simp only [sx_ev, sx_evl, gs_ofNat, gs_neg] ; omega))) (by (repeat' (first | exact gs_t0 | (refine gs_t1 ?_ ?_))) <;> (simp only [sx_ev, sx_evl, gs_ofNat, gs_neg] ; omega))⟩
  · exact ⟨sx_σi [(10, (.ofNat 0, [(37, .ofNat 1)])), (17, (.negSucc 4, [(17, .ofNat 1)])), (18, (.ofNat 13, [(18, .ofNat 1)])), (19, (.ofNat 5, [(19, .ofNat 1)])), (20, (.ofNat 5, [(20, .ofNat 1)]))] σ, gs_fix_of rfl hf0, gs_cnt_of rfl hc0 hn, gs_none rfl, (gs_some rfl).trans (by (simp only [sx_ev, sx_evl, gs_ofNat, gs_neg] ; omega)), gs_lo rfl, tv_b1_010_l d e f g h hLB (gs_F hq0 hf0 hc0 (by (repeat' (first | exact bk_F0 | (refine bk_F1 ?_ ?_))) <;> (simp only [sx_ev, sx_evl, gs_ofNat, gs_neg] ; omega))) (by (repeat' (first | exact gs_t0 | (refine gs_t1 ?_ ?_))) <;> (simp only [sx_ev, sx_evl, gs_ofNat, gs_neg] ; omega))⟩
  · exact ⟨sx_σi [(10, (.ofNat 0, [(37, .ofNat 1)])), (17, (.negSucc 5, [(17, .ofNat 1)])), (18, (.ofNat 17, [(18, .ofNat 1)])), (19, (.ofNat 6, [(19, .ofNat 1)])), (20, (.ofNat 6, [(20, .ofNat 1)]))] σ, gs_fix_of rfl hf0, gs_cnt_of rfl hc0 hn, gs_none rfl, (gs_some rfl).trans (by (simp only [sx_ev, sx_evl, gs_ofNat, gs_neg] ; omega)), gs_lo rfl, tv_b1_011_l d e f g h hLB (gs_F hq0 hf0 hc0 (by (repeat' (first | exact bk_F0 | (refine bk_F1 ?_ ?_))) <;> (simp only [sx_ev, sx_evl, gs_ofNat, gs_neg] ; omega))) (by (repeat' (first | exact gs_t0 | (refine gs_t1 ?_ ?_))) <;> (simp only [sx_ev, sx_evl, gs_ofNat, gs_neg] ; omega))⟩
  · exact ⟨sx_σi [(10, (.ofNat 0, [(37, .ofNat 1)])), (17, (.negSucc 4, [(17, .ofNat 1)])), (18, (.ofNat 13, [(18, .ofNat 1)])), (19, (.ofNat 5, [(19, .ofNat 1)])), (20, (.ofNat 5, [(20, .ofNat 1)]))] σ, gs_fix_of rfl hf0, gs_cnt_of rfl hc0 hn, gs_none rfl, (gs_some rfl).trans (by (simp only [sx_ev, sx_evl, gs_ofNat, gs_neg] ; omega)), gs_lo rfl, tv_b1_100_l d e f g h hLB (gs_F hq0 hf0 hc0 (by (repeat' (first | exact bk_F0 | (refine bk_F1 ?_ ?_))) <;> (simp only [sx_ev, sx_evl, gs_ofNat, gs_neg] ; omega))) (by (repeat' (first | exact gs_t0 | (refine gs_t1 ?_ ?_))) <;> (simp only [sx_ev, sx_evl, gs_ofNat, gs_neg] ; omega))⟩
  · exact ⟨sx_σi [(10, (.ofNat 0, [(37, .ofNat 1)])), (17, (.negSucc 5, [(17, .ofNat 1)])), (18, (.ofNat 17, [(18, .ofNat 1)])), (19, (.ofNat 6, [(19, .ofNat 1)])), (20, (.ofNat 6, [(20, .ofNat 1)]))] σ, gs_fix_of rfl hf0, gs_cnt_of rfl hc0 hn, gs_none rfl, (gs_some rfl).trans (by (simp only [sx_ev, sx_evl, gs_ofNat, gs_neg] ; omega)), gs_lo rfl, tv_b1_101_l d e f g h hLB (gs_F hq0 hf0 hc0 (by (repeat' (first | exact bk_F0 | (refine bk_F1 ?_ ?_))) <;> (simp only [sx_ev, sx_evl, gs_ofNat, gs_neg] ; omega))) (by (repeat' (first | exact gs_t0 | (refine gs_t1 ?_ ?_))) <;> (simp only [sx_ev, sx_evl, gs_ofNat, gs_neg] ; omega))⟩
  · exact ⟨sx_σi [(10, (.ofNat 0, [(37, .ofNat 1)])), (17, (.negSucc 5, [(17, .ofNat 1)])), (18, (.ofNat 17, [(18, .ofNat 1)])), (19, (.ofNat 6, [(19, .ofNat 1)])), (20, (.ofNat 6, [(20, .ofNat 1)]))] σ, gs_fix_of rfl hf0, gs_cnt_of rfl hc0 hn, gs_none rfl, (gs_some rfl).trans (by (simp only [sx_ev, sx_evl, gs_ofNat, gs_neg] ; omega)), gs_lo rfl, tv_b1_110_l d e f g h hLB (gs_F hq0 hf0 hc0 (by (repeat' (first | exact bk_F0 | (refine bk_F1 ?_ ?_))) <;> (simp only [sx_ev, sx_evl, gs_ofNat, gs_neg] ; omega))) (by (repeat' (first | exact gs_t0 | (refine gs_t1 ?_ ?_))) <;> (simp only [sx_ev, sx_evl, gs_ofNat, gs_neg] ; omega))⟩
  · exact ⟨sx_σi [(10, (.ofNat 0, [(37, .ofNat 1)])), (17, (.negSucc 6, [(17, .ofNat 1)])), (18, (.ofNat 21, [(18, .ofNat 1)])), (19, (.ofNat 7, [(19, .ofNat 1)])), (20, (.ofNat 7, [(20, .ofNat 1)]))] σ, gs_fix_of rfl hf0, gs_cnt_of rfl hc0 hn, gs_none rfl, (gs_some rfl).trans (by (simp only [sx_ev, sx_evl, gs_ofNat, gs_neg] ; omega)), gs_lo rfl, tv_b1_111_l d e f g h hLB (gs_F hq0 hf0 hc0 (by (repeat' (first | exact bk_F0 | (refine bk_F1 ?_ ?_))) <;> (simp only [sx_ev, sx_evl, gs_ofNat, gs_neg] ; omega))) (by (repeat' (first | exact gs_t0 | (refine gs_t1 ?_ ?_))) <;> (simp only [sx_ev, sx_evl, gs_ofNat, gs_neg] ; omega))⟩
  · exfalso
    omega
  · exact ⟨sx_σi [(10, (.ofNat 0, [(37, .ofNat 1)])), (17, (.negSucc 4, [(17, .ofNat 1)])), (18, (.ofNat 13, [(18, .ofNat 1)])), (19, (.ofNat 5, [(19, .ofNat 1)])), (20, (.ofNat 5, [(20, .ofNat 1)]))] σ, gs_fix_of rfl hf0, gs_cnt_of rfl hc0 hn, gs_none rfl, (gs_some rfl).trans (by (simp only [sx_ev, sx_evl, gs_ofNat, gs_neg] ; omega)), gs_lo rfl, tv_b1_001_e d e f g h hLB (gs_F hq0 hf0 hc0 (by (repeat' (first | exact bk_F0 | (refine bk_F1 ?_ ?_))) <;> (simp only [sx_ev, sx_evl, gs_ofNat, gs_neg] ; omega))) (by (repeat' (first | exact gs_t0 | (refine gs_t1 ?_ ?_))) <;> (simp only [sx_ev, sx_evl, gs_ofNat, gs_neg] ; omega))⟩
  · exfalso
    omega
  · exact ⟨sx_σi [(10, (.ofNat 0, [(37, .ofNat 1)])), (17, (.negSucc 5, [(17, .ofNat 1)])), (18, (.ofNat 17, [(18, .ofNat 1)])), (19, (.ofNat 6, [(19, .ofNat 1)])), (20, (.ofNat 6, [(20, .ofNat 1)]))] σ, gs_fix_of rfl hf0, gs_cnt_of rfl hc0 hn, gs_none rfl, (gs_some rfl).trans (by (simp only [sx_ev, sx_evl, gs_ofNat, gs_neg] ; omega)), gs_lo rfl, tv_b1_011_e d e f g h hLB (gs_F hq0 hf0 hc0 (by (repeat' (first | exact bk_F0 | (refine bk_F1 ?_ ?_))) <;> (simp only [sx_ev, sx_evl, gs_ofNat, gs_neg] ; omega))) (by (repeat' (first | exact gs_t0 | (refine gs_t1 ?_ ?_))) <;> (simp only [sx_ev, sx_evl, gs_ofNat, gs_neg] ; omega))⟩
  · exfalso
    omega
  · exact ⟨sx_σi [(10, (.ofNat 0, [(37, .ofNat 1)])), (17, (.negSucc 5, [(17, .ofNat 1)])), (18, (.ofNat 17, [(18, .ofNat 1)])), (19, (.ofNat 6, [(19, .ofNat 1)])), (20, (.ofNat 6, [(20, .ofNat 1)]))] σ, gs_fix_of rfl hf0, gs_cnt_of rfl hc0 hn, gs_none rfl, (gs_some rfl).trans (by (simp only [sx_ev, sx_evl, gs_ofNat, gs_neg] ; omega)), gs_lo rfl, tv_b1_101_e d e f g h hLB (gs_F hq0 hf0 hc0 (by (repeat' (first | exact bk_F0 | (refine bk_F1 ?_ ?_))) <;> (simp only [sx_ev, sx_evl, gs_ofNat, gs_neg] ; omega))) (by (repeat' (first | exact gs_t0 | (refine gs_t1 ?_ ?_))) <;> (simp only [sx_ev, sx_evl, gs_ofNat, gs_neg] ; omega))⟩
  · exfalso
    omega
  · exact ⟨sx_σi [(10, (.ofNat 0, [(37, .ofNat 1)])), (17, (.negSucc 6, [(17, .ofNat 1)])), (18, (.ofNat 21, [(18, .ofNat 1)])), (19, (.ofNat 7, [(19, .ofNat 1)])), (20, (.ofNat 7, [(20, .ofNat 1)]))] σ, gs_fix_of rfl hf0, gs_cnt_of rfl hc0 hn, gs_none rfl, (gs_some rfl).trans (by (simp only [sx_ev, sx_evl, gs_ofNat, gs_neg] ; omega)), gs_lo rfl, tv_b1_111_e d e f g h hLB (gs_F hq0 hf0 hc0 (by (repeat' (first | exact bk_F0 | (refine bk_F1 ?_ ?_))) <;> (simp only [sx_ev, sx_evl, gs_ofNat, gs_neg] ; omega))) (by (repeat' (first | exact gs_t0 | (refine gs_t1 ?_ ?_))) <;> (simp only [sx_ev, sx_evl, gs_ofNat, gs_neg] ; omega))⟩
theorem gs_b1x {q : gs_P} {a b c d e f g h : Bool} {LB : List (Nat × sx_C)} {z : Nat → Nat} {σ : Nat → Int} {n : Int} (hLB : bk_lb LB = true) (hq : gs_ok q) (hb : gs_bits q a b c d e f g h) (hf : gs_fix q σ) (hc : gs_cnt n σ) (hon : ¬ gs_on q.a q.b q.y) : ∃ σ' : Nat → Int, gx_G 40 sm_X8_go 14 560 9 135 z σ (bk_pt 4 xL [] (gp_B1 a b c d e f g h LB) 300) σ' (bk_pt 115 [] [] (gp_END a b c d e f g h LB) 300) := by
  have hf0 := hf
  have hc0 := hc
  have hq0 := hq
  obtain ⟨f1, f2, f3, f4, f5, f6, f7, f8, f9, f10, f11⟩ := hf
  obtain ⟨⟨q1, q2, q3, q4, q5, q6, q7, q8, q9, q10, q11, q12⟩, ⟨q13, q14, q15⟩, ⟨q16, q17, q18⟩, ⟨q19, q20⟩, q21, q22⟩ := hq
  obtain ⟨b1, b2, b3, b4, b5, b6, b7, b8⟩ := hb
  have h9 := hon
  unfold gs_on at h9
  rcases Int.lt_trichotomy (q.a) (q.b) with ho | ho | ho <;> cases a <;> cases b <;> cases c <;> simp only [gs_s] at b1 b2 b3
  · exfalso
    omega
  · exact ⟨sx_σi [] σ, gs_lo rfl, tv_b1_001_m d e f g h hLB (gs_F hq0 hf0 hc0 (by (repeat' (first | exact bk_F0 | (refine bk_F1 ?_ ?_))) <;> (simp only [sx_ev, sx_evl, gs_ofNat, gs_neg] ; omega))) (by (repeat' (first | exact gs_t0 | (refine gs_t1 ?_ ?_))) <;> (simp only [sx_ev, sx_evl, gs_ofNat, gs_neg] ; omega))⟩
  · exfalso
    omega
  · exact ⟨sx_σi [] σ, gs_lo rfl, tv_b1_011_m d e f g h hLB (gs_F hq0 hf0 hc0 (by (repeat' (first | exact bk_F0 | (refine bk_F1 ?_ ?_))) <;> (simp only [sx_ev, sx_evl, gs_ofNat, gs_neg] ; omega))) (by (repeat' (first | exact gs_t0 | (refine gs_t1 ?_ ?_))) <;> (simp only [sx_ev, sx_evl, gs_ofNat, gs_neg] ; omega))⟩
  · exfalso
    omega
  · exact ⟨sx_σi [] σ, gs_lo rfl, tv_b1_101_m d e f g h hLB (gs_F hq0 hf0 hc0 (by (repeat' (first | exact bk_F0 | (refine bk_F1 ?_ ?_))) <;> (simp only [sx_ev, sx_evl, gs_ofNat, gs_neg] ; omega))) (by (repeat' (first | exact gs_t0 | (refine gs_t1 ?_ ?_))) <;> (simp only [sx_ev, sx_evl, gs_ofNat, gs_neg] ; omega))⟩
  · exfalso
    omega
  · exact ⟨sx_σi [] σ, gs_lo rfl, tv_b1_111_m d e f g h hLB (gs_F hq0 hf0 hc0 (by (repeat' (first | exact bk_F0 | (refine bk_F1 ?_ ?_))) <;> (simp only [sx_ev, sx_evl, gs_ofNat, gs_neg] ; omega))) (by (repeat' (first | exact gs_t0 | (refine gs_t1 ?_ ?_))) <;> (simp only [sx_ev, sx_evl, gs_ofNat, gs_neg] ; omega))⟩
  · exfalso
    omega
  · exfalso
    omega
  · exfalso
    omega
  · exfalso
    omega
  · exfalso
    omega
  · exfalso
    omega
  · exfalso
    omega
  · exfalso
    omega
  · exact ⟨sx_σi [] σ, gs_lo rfl, tv_b1_000_e d e f g h hLB (gs_F hq0 hf0 hc0 (by (repeat' (first | exact bk_F0 | (refine bk_F1 ?_ ?_))) <;> (simp only [sx_ev, sx_evl, gs_ofNat, gs_neg] ; omega))) (by (repeat' (first | exact gs_t0 | (refine gs_t1 ?_ ?_))) <;> (simp only [sx_ev, sx_evl, gs_ofNat, gs_neg] ; omega))⟩
  · exfalso
    omega
  · exact ⟨sx_σi [] σ, gs_lo rfl, tv_b1_010_e d e f g h hLB (gs_F hq0 hf0 hc0 (by (repeat' (first | exact bk_F0 | (refine bk_F1 ?_ ?_))) <;> (simp only [sx_ev, sx_evl, gs_ofNat, gs_neg] ; omega))) (by (repeat' (first | exact gs_t0 | (refine gs_t1 ?_ ?_))) <;> (simp only [sx_ev, sx_evl, gs_ofNat, gs_neg] ; omega))⟩
  · exfalso
    omega
  · exact ⟨sx_σi [] σ, gs_lo rfl, tv_b1_100_e d e f g h hLB (gs_F hq0 hf0 hc0 (by (repeat' (first | exact bk_F0 | (refine bk_F1 ?_ ?_))) <;> (simp only [sx_ev, sx_evl, gs_ofNat, gs_neg] ; omega))) (by (repeat' (first | exact gs_t0 | (refine gs_t1 ?_ ?_))) <;> (simp only [sx_ev, sx_evl, gs_ofNat, gs_neg] ; omega))⟩
  · exfalso
    omega
  · exact ⟨sx_σi [] σ, gs_lo rfl, tv_b1_110_e d e f g h hLB (gs_F hq0 hf0 hc0 (by (repeat' (first | exact bk_F0 | (refine bk_F1 ?_ ?_))) <;> (simp only [sx_ev, sx_evl, gs_ofNat, gs_neg] ; omega))) (by (repeat' (first | exact gs_t0 | (refine gs_t1 ?_ ?_))) <;> (simp only [sx_ev, sx_evl, gs_ofNat, gs_neg] ; omega))⟩
  · exfalso
    omega
theorem gs_b2 {q : gs_P} {a b c d e f g h : Bool} {LB : List (Nat × sx_C)} {z : Nat → Nat} {σ : Nat → Int} {n : Int} (hLB : bk_lb LB = true) (hq : gs_ok q) (hb : gs_bits q a b c d e f g h) (hf : gs_fix q σ) (hc : gs_cnt n σ) (hon : gs_on q.d q.e q.t) (hn : n + 7 ≤ 3800) : ∃ σ' : Nat → Int, gs_fix q σ' ∧ gs_cnt (n + 7) σ' ∧ σ' 16 = σ 16 ∧ σ' 10 = σ 10 ∧ gx_G 40 sm_X8_go 14 560 9 135 z σ (bk_pt 4 xL [] (gp_B2 a b c d e f g h LB) 300) σ' (bk_pt 4 xL [] (gp_QC a b c d e f g h false LB) 300) := by
  have hf0 := hf
  have hc0 := hc
  have hq0 := hq
  obtain ⟨f1, f2, f3, f4, f5, f6, f7, f8, f9, f10, f11⟩ := hf
  obtain ⟨⟨q1, q2, q3, q4, q5, q6, q7, q8, q9, q10, q11, q12⟩, ⟨q13, q14, q15⟩, ⟨q16, q17, q18⟩, ⟨q19, q20⟩, q21, q22⟩ := hq
  obtain ⟨b1, b2, b3, b4, b5, b6, b7, b8⟩ := hb
  have h9 := hon
  unfold gs_on at h9
  rcases Int.lt_trichotomy (q.d) (q.e) with ho | ho | ho <;> cases d <;> cases e <;> cases f <;> simp only [gs_s] at b4 b5 b6
  · exact ⟨sx_σi [(17, (.negSucc 3, [(17, .ofNat 1)])), (18, (.ofNat 9, [(18, .ofNat 1)])), (19, (.ofNat 4, [(19, .ofNat 1)])), (20, (.ofNat 4, [(20, .ofNat 1)]))] σ, gs_fix_of rfl hf0, gs_cnt_of rfl hc0 hn, gs_none rfl, gs_none rfl, gs_lo rfl, tv_b2_000_m a b c g h hLB (gs_F hq0 hf0 hc0 (by (repeat' (first | exact bk_F0 | (refine bk_F1 ?_ ?_))) <;> (simp only [sx_ev, sx_evl, gs_ofNat, gs_neg] ; omega))) (by (repeat' (first | exact gs_t0 | (refine gs_t1 ?_ ?_))) <;> (simp only [sx_ev, sx_evl, gs_ofNat, gs_neg] ; omega))⟩
  · exfalso
    omega
  · exact ⟨sx_σi [(17, (.negSucc 4, [(17, .ofNat 1)])), (18, (.ofNat 13, [(18, .ofNat 1)])), (19, (.ofNat 5, [(19, .ofNat 1)])), (20, (.ofNat 5, [(20, .ofNat 1)]))] σ, gs_fix_of rfl hf0, gs_cnt_of rfl hc0 hn, gs_none rfl, gs_none rfl, gs_lo rfl, tv_b2_010_m a b c g h hLB (gs_F hq0 hf0 hc0 (by (repeat' (first | exact bk_F0 | (refine bk_F1 ?_ ?_))) <;> (simp only [sx_ev, sx_evl, gs_ofNat, gs_neg] ; omega))) (by (repeat' (first | exact gs_t0 | (refine gs_t1 ?_ ?_))) <;> (simp only [sx_ev, sx_evl, gs_ofNat, gs_neg] ; omega))⟩
  · exfalso
    omega
  · exact ⟨sx_σi [(17, (.negSucc 4, [(17, .ofNat 1)])), (18, (.ofNat 13, [(18, .ofNat 1)])), (19, (.ofNat 5, [(19, .ofNat 1)])), (20, (.ofNat 5, [(20, .ofNat 1)]))] σ, gs_fix_of rfl hf0, gs_cnt_of rfl hc0 hn, gs_none rfl, gs_none rfl, gs_lo rfl, tv_b2_100_m a b c g h hLB (gs_F hq0 hf0 hc0 (by (repeat' (first | exact bk_F0 | (refine bk_F1 ?_ ?_))) <;> (simp only [sx_ev, sx_evl, gs_ofNat, gs_neg] ; omega))) (by (repeat' (first | exact gs_t0 | (refine gs_t1 ?_ ?_))) <;> (simp only [sx_ev, sx_evl, gs_ofNat, gs_neg] ; omega))⟩
  · exfalso
    omega
  · exact ⟨sx_σi [(17, (.negSucc 5, [(17, .ofNat 1)])), (18, (.ofNat 17, [(18, .ofNat 1)])), (19, (.ofNat 6, [(19, .ofNat 1)])), (20, (.ofNat 6, [(20, .ofNat 1)]))] σ, gs_fix_of rfl hf0, gs_cnt_of rfl hc0 hn, gs_none rfl, gs_none rfl, gs_lo rfl, tv_b2_110_m a b c g h hLB (gs_F hq0 hf0 hc0 (by (repeat' (first | exact bk_F0 | (refine bk_F1 ?_ ?_))) <;> (simp only [sx_ev, sx_evl, gs_ofNat, gs_neg] ; omega))) (by (repeat' (first | exact gs_t0 | (refine gs_t1 ?_ ?_))) <;> (simp only [sx_ev, sx_evl, gs_ofNat, gs_neg] ; omega))⟩
  · exfalso
    omega
  · exact ⟨sx_σi [(17, (.negSucc 3, [(17, .ofNat 1)])), (18, (.ofNat 9, [(18, .ofNat 1)])), (19, (.ofNat 4, [(19, .ofNat 1)])), (20, (.ofNat 4, [(20, .ofNat 1)]))] σ, gs_fix_of rfl hf0, gs_cnt_of rfl hc0 hn, gs_none rfl, gs_none rfl, gs_lo rfl, tv_b2_000_l a b c g h hLB (gs_F hq0 hf0 hc0 (by (repeat' (first | exact bk_F0 | (refine bk_F1 ?_ ?_))) <;> (simp only [sx_ev, sx_evl, gs_ofNat, gs_neg] ; omega))) (by (repeat' (first | exact gs_t0 | (refine gs_t1 ?_ ?_))) <;> (simp only [sx_ev, sx_evl, gs_ofNat, gs_neg] ; omega))⟩
  · exact ⟨sx_σi [(17, (.negSucc 4, [(17, .ofNat 1)])), (18, (.ofNat 13, [(18, .ofNat 1)])), (19, (.ofNat 5, [(19, .ofNat 1)])), (20, (.ofNat 5, [(20, .ofNat 1)]))] σ, gs_fix_of rfl hf0, gs_cnt_of rfl hc0 hn, gs_none rfl, gs_none rfl, gs_lo rfl, tv_b2_001_l a b c g h hLB (gs_F hq0 hf0 hc0 (by (repeat' (first | exact bk_F0 | (refine bk_F1 ?_ ?_))) <;> (simp only [sx_ev, sx_evl, gs_ofNat, gs_neg] ; omega))) (by (repeat' (first | exact gs_t0 | (refine gs_t1 ?_ ?_))) <;> (simp only [sx_ev, sx_evl, gs_ofNat, gs_neg] ; omega))⟩
  · exact ⟨sx_σi [(17, (.negSucc 4, [(17, .ofNat 1)])), (18, (.ofNat 13, [(18, .ofNat 1)])), (19, (.ofNat 5, [(19, .ofNat 1)])), (20, (.ofNat 5, [(20, .ofNat 1)]))] σ, gs_fix_of rfl hf0, gs_cnt_of rfl hc0 hn, gs_none rfl, gs_none rfl, gs_lo rfl, tv_b2_010_l a b c g h hLB (gs_F hq0 hf0 hc0 (by (repeat' (first | exact bk_F0 | (refine bk_F1 ?_ ?_))) <;> (simp only [sx_ev, sx_evl, gs_ofNat, gs_neg] ; omega))) (by (repeat' (first | exact gs_t0 | (refine gs_t1 ?_ ?_))) <;> (simp only [sx_ev, sx_evl, gs_ofNat, gs_neg] ; omega))⟩
  · exact ⟨sx_σi [(17, (.negSucc 5, [(17, .ofNat 1)])), (18, (.ofNat 17, [(18, .ofNat 1)])), (19, (.ofNat 6, [(19, .ofNat 1)])), (20, (.ofNat 6, [(20, .ofNat 1)]))] σ, gs_fix_of rfl hf0, gs_cnt_of rfl hc0 hn, gs_none rfl, gs_none rfl, gs_lo rfl, tv_b2_011_l a b c g h hLB (gs_F hq0 hf0 hc0 (by (repeat' (first | exact bk_F0 | (refine bk_F1 ?_ ?_))) <;> (simp only [sx_ev, sx_evl, gs_ofNat, gs_neg] ; omega))) (by (repeat' (first | exact gs_t0 | (refine gs_t1 ?_ ?_))) <;> (simp only [sx_ev, sx_evl, gs_ofNat, gs_neg] ; omega))⟩
  · exact ⟨sx_σi [(17, (.negSucc 4, [(17, .ofNat 1)])), (18, (.ofNat 13, [(18, .ofNat 1)])), (19, (.ofNat 5, [(19, .ofNat 1)])), (20, (.ofNat 5, [(20, .ofNat 1)]))] σ, gs_fix_of rfl hf0, gs_cnt_of rfl hc0 hn, gs_none rfl, gs_none rfl, gs_lo rfl, tv_b2_100_l a b c g h hLB (gs_F hq0 hf0 hc0 (by (repeat' (first | exact bk_F0 | (refine bk_F1 ?_ ?_))) <;> (simp only [sx_ev, sx_evl, gs_ofNat, gs_neg] ; omega))) (by (repeat' (first | exact gs_t0 | (refine gs_t1 ?_ ?_))) <;> (simp only [sx_ev, sx_evl, gs_ofNat, gs_neg] ; omega))⟩
  · exact ⟨sx_σi [(17, (.negSucc 5, [(17, .ofNat 1)])), (18, (.ofNat 17, [(18, .ofNat 1)])), (19, (.ofNat 6, [(19, .ofNat 1)])), (20, (.ofNat 6, [(20, .ofNat 1)]))] σ, gs_fix_of rfl hf0, gs_cnt_of rfl hc0 hn, gs_none rfl, gs_none rfl, gs_lo rfl, tv_b2_101_l a b c g h hLB (gs_F hq0 hf0 hc0 (by (repeat' (first | exact bk_F0 | (refine bk_F1 ?_ ?_))) <;> (simp only [sx_ev, sx_evl, gs_ofNat, gs_neg] ; omega))) (by (repeat' (first | exact gs_t0 | (refine gs_t1 ?_ ?_))) <;> (simp only [sx_ev, sx_evl, gs_ofNat, gs_neg] ; omega))⟩
  · exact ⟨sx_σi [(17, (.negSucc 5, [(17, .ofNat 1)])), (18, (.ofNat 17, [(18, .ofNat 1)])), (19, (.ofNat 6, [(19, .ofNat 1)])), (20, (.ofNat 6, [(20, .ofNat 1)]))] σ, gs_fix_of rfl hf0, gs_cnt_of rfl hc0 hn, gs_none rfl, gs_none rfl, gs_lo rfl, tv_b2_110_l a b c g h hLB (gs_F hq0 hf0 hc0 (by (repeat' (first | exact bk_F0 | (refine bk_F1 ?_ ?_))) <;> (simp only [sx_ev, sx_evl, gs_ofNat, gs_neg] ; omega))) (by (repeat' (first | exact gs_t0 | (refine gs_t1 ?_ ?_))) <;> (simp only [sx_ev, sx_evl, gs_ofNat, gs_neg] ; omega))⟩
  · exact ⟨sx_σi [(17, (.negSucc 6, [(17, .ofNat 1)])), (18, (.ofNat 21, [(18, .ofNat 1)])), (19, (.ofNat 7, [(19, .ofNat 1)])), (20, (.ofNat 7, [(20, .ofNat 1)]))] σ, gs_fix_of rfl hf0, gs_cnt_of rfl hc0 hn, gs_none rfl, gs_none rfl, gs_lo rfl, tv_b2_111_l a b c g h hLB (gs_F hq0 hf0 hc0 (by (repeat' (first | exact bk_F0 | (refine bk_F1 ?_ ?_))) <;> (simp only [sx_ev, sx_evl, gs_ofNat, gs_neg] ; omega))) (by (repeat' (first | exact gs_t0 | (refine gs_t1 ?_ ?_))) <;> (simp only [sx_ev, sx_evl, gs_ofNat, gs_neg] ; omega))⟩
  · exfalso
    omega
  · exact ⟨sx_σi [(17, (.negSucc 4, [(17, .ofNat 1)])), (18, (.ofNat 13, [(18, .ofNat 1)])), (19, (.ofNat 5, [(19, .ofNat 1)])), (20, (.ofNat 5, [(20, .ofNat 1)]))] σ, gs_fix_of rfl hf0, gs_cnt_of rfl hc0 hn, gs_none rfl, gs_none rfl, gs_lo rfl, tv_b2_001_e a b c g h hLB (gs_F hq0 hf0 hc0 (by (repeat' (first | exact bk_F0 | (refine bk_F1 ?_ ?_))) <;> (simp only [sx_ev, sx_evl, gs_ofNat, gs_neg] ; omega))) (by (repeat' (first | exact gs_t0 | (refine gs_t1 ?_ ?_))) <;> (simp only [sx_ev, sx_evl, gs_ofNat, gs_neg] ; omega))⟩
  · exfalso
    omega
  · exact ⟨sx_σi [(17, (.negSucc 5, [(17, .ofNat 1)])), (18, (.ofNat 17, [(18, .ofNat 1)])), (19, (.ofNat 6, [(19, .ofNat 1)])), (20, (.ofNat 6, [(20, .ofNat 1)]))] σ, gs_fix_of rfl hf0, gs_cnt_of rfl hc0 hn, gs_none rfl, gs_none rfl, gs_lo rfl, tv_b2_011_e a b c g h hLB (gs_F hq0 hf0 hc0 (by (repeat' (first | exact bk_F0 | (refine bk_F1 ?_ ?_))) <;> (simp only [sx_ev, sx_evl, gs_ofNat, gs_neg] ; omega))) (by (repeat' (first | exact gs_t0 | (refine gs_t1 ?_ ?_))) <;> (simp only [sx_ev, sx_evl, gs_ofNat, gs_neg] ; omega))⟩
  · exfalso
    omega
  · exact ⟨sx_σi [(17, (.negSucc 5, [(17, .ofNat 1)])), (18, (.ofNat 17, [(18, .ofNat 1)])), (19, (.ofNat 6, [(19, .ofNat 1)])), (20, (.ofNat 6, [(20, .ofNat 1)]))] σ, gs_fix_of rfl hf0, gs_cnt_of rfl hc0 hn, gs_none rfl, gs_none rfl, gs_lo rfl, tv_b2_101_e a b c g h hLB (gs_F hq0 hf0 hc0 (by (repeat' (first | exact bk_F0 | (refine bk_F1 ?_ ?_))) <;> (simp only [sx_ev, sx_evl, gs_ofNat, gs_neg] ; omega))) (by (repeat' (first | exact gs_t0 | (refine gs_t1 ?_ ?_))) <;> (simp only [sx_ev, sx_evl, gs_ofNat, gs_neg] ; omega))⟩
  · exfalso
    omega
  · exact ⟨sx_σi [(17, (.negSucc 6, [(17, .ofNat 1)])), (18, (.ofNat 21, [(18, .ofNat 1)])), (19, (.ofNat 7, [(19, .ofNat 1)])), (20, (.ofNat 7, [(20, .ofNat 1)]))] σ, gs_fix_of rfl hf0, gs_cnt_of rfl hc0 hn, gs_none rfl, gs_none rfl, gs_lo rfl, tv_b2_111_e a b c g h hLB (gs_F hq0 hf0 hc0 (by (repeat' (first | exact bk_F0 | (refine bk_F1 ?_ ?_))) <;> (simp only [sx_ev, sx_evl, gs_ofNat, gs_neg] ; omega))) (by (repeat' (first | exact gs_t0 | (refine gs_t1 ?_ ?_))) <;> (simp only [sx_ev, sx_evl, gs_ofNat, gs_neg] ; omega))⟩
theorem gs_b2x {q : gs_P} {a b c d e f g h : Bool} {LB : List (Nat × sx_C)} {z : Nat → Nat} {σ : Nat → Int} {n : Int} (hLB : bk_lb LB = true) (hq : gs_ok q) (hb : gs_bits q a b c d e f g h) (hf : gs_fix q σ) (hc : gs_cnt n σ) (hon : ¬ gs_on q.d q.e q.t) (hn : n + 13 ≤ 3800) : ∃ σ' : Nat → Int, gs_fix q σ' ∧ gs_cnt (n + 13) σ' ∧ σ' 16 = σ 16 ∧ σ' 10 = σ 10 ∧ gx_G 40 sm_X8_go 14 560 9 135 z σ (bk_pt 4 xL [] (gp_B2 a b c d e f g h LB) 300) σ' (bk_pt 4 xL [] (gp_QX a b c d e f g h LB) 300) := by
  have hf0 := hf
  have hc0 := hc
  have hq0 := hq
  obtain ⟨f1, f2, f3, f4, f5, f6, f7, f8, f9, f10, f11⟩ := hf
  obtain ⟨⟨q1, q2, q3, q4, q5, q6, q7, q8, q9, q10, q11, q12⟩, ⟨q13, q14, q15⟩, ⟨q16, q17, q18⟩, ⟨q19, q20⟩, q21, q22⟩ := hq
  obtain ⟨b1, b2, b3, b4, b5, b6, b7, b8⟩ := hb
  have h9 := hon
  unfold gs_on at h9
  rcases Int.lt_trichotomy (q.d) (q.e) with ho | ho | ho <;> cases d <;> cases e <;> cases f <;> simp only [gs_s] at b4 b5 b6
  · exfalso
    omega
  · exact ⟨sx_σi [(17, (.negSucc 8, [(17, .ofNat 1)])), (18, (.ofNat 22, [(18, .ofNat 1)])), (19, (.ofNat 9, [(19, .ofNat 1)])), (20, (.ofNat 9, [(20, .ofNat 1)]))] σ, gs_fix_of rfl hf0, gs_cnt_of rfl hc0 hn, gs_none rfl, gs_none rfl, gs_lo rfl, tv_b2_001_m a b c g h hLB (gs_F hq0 hf0 hc0 (by (repeat' (first | exact bk_F0 | (refine bk_F1 ?_ ?_))) <;> (simp only [sx_ev, sx_evl, gs_ofNat, gs_neg] ; omega))) (by (repeat' (first | exact gs_t0 | (refine gs_t1 ?_ ?_))) <;> (simp only [sx_ev, sx_evl, gs_ofNat, gs_neg] ; omega))⟩
  · exfalso
    omega
  · exact ⟨sx_σi [(17, (.negSucc 10, [(17, .ofNat 1)])), (18, (.ofNat 28, [(18, .ofNat 1)])), (19, (.ofNat 11, [(19, .ofNat 1)])), (20, (.ofNat 11, [(20, .ofNat 1)]))] σ, gs_fix_of rfl hf0, gs_cnt_of rfl hc0 hn, gs_none rfl, gs_none rfl, gs_lo rfl, tv_b2_011_m a b c g h hLB (gs_F hq0 hf0 hc0 (by (repeat' (first | exact bk_F0 | (refine bk_F1 ?_ ?_))) <;> (simp only [sx_ev, sx_evl, gs_ofNat, gs_neg] ; omega))) (by (repeat' (first | exact gs_t0 | (refine gs_t1 ?_ ?_))) <;> (simp only [sx_ev, sx_evl, gs_ofNat, gs_neg] ; omega))⟩
  · exfalso
    omega
  · exact ⟨sx_σi [(17, (.negSucc 10, [(17, .ofNat 1)])), (18, (.ofNat 28, [(18, .ofNat 1)])), (19, (.ofNat 11, [(19, .ofNat 1)])), (20, (.ofNat 11, [(20, .ofNat 1)]))] σ, gs_fix_of rfl hf0, gs_cnt_of rfl hc0 hn, gs_none rfl, gs_none rfl, gs_lo rfl, tv_b2_101_m a b c g h hLB (gs_F hq0 hf0 hc0 (by (repeat' (first | exact bk_F0 | (refine bk_F1 ?_ ?_))) <;> (simp only [sx_ev, sx_evl, gs_ofNat, gs_neg] ; omega))) (by (repeat' (first | exact gs_t0 | (refine gs_t1 ?_ ?_))) <;> (simp only [sx_ev, sx_evl, gs_ofNat, gs_neg] ; omega))⟩
  · exfalso
    omega
  · exact ⟨sx_σi [(17, (.negSucc 12, [(17, .ofNat 1)])), (18, (.ofNat 34, [(18, .ofNat 1)])), (19, (.ofNat 13, [(19, .ofNat 1)])), (20, (.ofNat 13, [(20, .ofNat 1)]))] σ, gs_fix_of rfl hf0, gs_cnt_of rfl hc0 hn, gs_none rfl, gs_none rfl, gs_lo rfl, tv_b2_111_m a b c g h hLB (gs_F hq0 hf0 hc0 (by (repeat' (first | exact bk_F0 | (refine bk_F1 ?_ ?_))) <;> (simp only [sx_ev, sx_evl, gs_ofNat, gs_neg] ; omega))) (by (repeat' (first | exact gs_t0 | (refine gs_t1 ?_ ?_))) <;> (simp only [sx_ev, sx_evl, gs_ofNat, gs_neg] ; omega))⟩
  · exfalso
    omega
  · exfalso
    omega
  · exfalso
    omega
  · exfalso
    omega
  · exfalso
    omega
  · exfalso
    omega
  · exfalso
    omega
  · exfalso
    omega
  · exact ⟨sx_σi [(17, (.negSucc 6, [(17, .ofNat 1)])), (18, (.ofNat 16, [(18, .ofNat 1)])), (19, (.ofNat 7, [(19, .ofNat 1)])), (20, (.ofNat 7, [(20, .ofNat 1)]))] σ, gs_fix_of rfl hf0, gs_cnt_of rfl hc0 hn, gs_none rfl, gs_none rfl, gs_lo rfl, tv_b2_000_e a b c g h hLB (gs_F hq0 hf0 hc0 (by (repeat' (first | exact bk_F0 | (refine bk_F1 ?_ ?_))) <;> (simp only [sx_ev, sx_evl, gs_ofNat, gs_neg] ; omega))) (by (repeat' (first | exact gs_t0 | (refine gs_t1 ?_ ?_))) <;> (simp only [sx_ev, sx_evl, gs_ofNat, gs_neg] ; omega))⟩
  · exfalso
    omega
  · exact ⟨sx_σi [(17, (.negSucc 8, [(17, .ofNat 1)])), (18, (.ofNat 22, [(18, .ofNat 1)])), (19, (.ofNat 9, [(19, .ofNat 1)])), (20, (.ofNat 9, [(20, .ofNat 1)]))] σ, gs_fix_of rfl hf0, gs_cnt_of rfl hc0 hn, gs_none rfl, gs_none rfl, gs_lo rfl, tv_b2_010_e a b c g h hLB (gs_F hq0 hf0 hc0 (by (repeat' (first | exact bk_F0 | (refine bk_F1 ?_ ?_))) <;> (simp only [sx_ev, sx_evl, gs_ofNat, gs_neg] ; omega))) (by (repeat' (first | exact gs_t0 | (refine gs_t1 ?_ ?_))) <;> (simp only [sx_ev, sx_evl, gs_ofNat, gs_neg] ; omega))⟩
  · exfalso
    omega
  · exact ⟨sx_σi [(17, (.negSucc 8, [(17, .ofNat 1)])), (18, (.ofNat 22, [(18, .ofNat 1)])), (19, (.ofNat 9, [(19, .ofNat 1)])), (20, (.ofNat 9, [(20, .ofNat 1)]))] σ, gs_fix_of rfl hf0, gs_cnt_of rfl hc0 hn, gs_none rfl, gs_none rfl, gs_lo rfl, tv_b2_100_e a b c g h hLB (gs_F hq0 hf0 hc0 (by (repeat' (first | exact bk_F0 | (refine bk_F1 ?_ ?_))) <;> (simp only [sx_ev, sx_evl, gs_ofNat, gs_neg] ; omega))) (by (repeat' (first | exact gs_t0 | (refine gs_t1 ?_ ?_))) <;> (simp only [sx_ev, sx_evl, gs_ofNat, gs_neg] ; omega))⟩
  · exfalso
    omega
  · exact ⟨sx_σi [(17, (.negSucc 10, [(17, .ofNat 1)])), (18, (.ofNat 28, [(18, .ofNat 1)])), (19, (.ofNat 11, [(19, .ofNat 1)])), (20, (.ofNat 11, [(20, .ofNat 1)]))] σ, gs_fix_of rfl hf0, gs_cnt_of rfl hc0 hn, gs_none rfl, gs_none rfl, gs_lo rfl, tv_b2_110_e a b c g h hLB (gs_F hq0 hf0 hc0 (by (repeat' (first | exact bk_F0 | (refine bk_F1 ?_ ?_))) <;> (simp only [sx_ev, sx_evl, gs_ofNat, gs_neg] ; omega))) (by (repeat' (first | exact gs_t0 | (refine gs_t1 ?_ ?_))) <;> (simp only [sx_ev, sx_evl, gs_ofNat, gs_neg] ; omega))⟩
  · exfalso
    omega
theorem gs_qb {q : gs_P} {a b c d e f g h : Bool} {LB : List (Nat × sx_C)} {z : Nat → Nat} {σ : Nat → Int} {n : Int} (hLB : bk_lb LB = true) (hq : gs_ok q) (hb : gs_bits q a b c d e f g h) (hf : gs_fix q σ) (hc : gs_cnt n σ) (hn : n + 1 ≤ 3800) : ∃ σ' : Nat → Int, gs_fix q σ' ∧ gs_cnt (n + 1) σ' ∧ σ' 16 = σ 16 ∧ σ' 10 = σ 10 ∧ gx_G 40 sm_X8_go 14 560 9 135 z σ (bk_pt 4 xL [] (gp_QB a b c d e f g h LB) 300) σ' (bk_pt 4 xL [] (gp_B2 a b c d e f g h LB) 300) := by
  have hf0 := hf
  have hc0 := hc
  have hq0 := hq
  obtain ⟨f1, f2, f3, f4, f5, f6, f7, f8, f9, f10, f11⟩ := hf
  obtain ⟨⟨q1, q2, q3, q4, q5, q6, q7, q8, q9, q10, q11, q12⟩, ⟨q13, q14, q15⟩, ⟨q16, q17, q18⟩, ⟨q19, q20⟩, q21, q22⟩ := hq
  obtain ⟨b1, b2, b3, b4, b5, b6, b7, b8⟩ := hb
  exact ⟨sx_σi [(18, (.ofNat 1, [(18, .ofNat 1)]))] σ, gs_fix_of rfl hf0, gs_cnt_of rfl hc0 hn, gs_none rfl, gs_none rfl, gs_lo rfl, tv_qb a b c d e f g h hLB (gs_F hq0 hf0 hc0 (by (repeat' (first | exact bk_F0 | (refine bk_F1 ?_ ?_))) <;> (simp only [sx_ev, sx_evl, gs_ofNat, gs_neg] ; omega))) (by (repeat' (first | exact gs_t0 | (refine gs_t1 ?_ ?_))) <;> (simp only [sx_ev, sx_evl, gs_ofNat, gs_neg] ; omega))⟩
theorem gs_a1 {q : gs_P} {a b c d e f g h : Bool} {LB : List (Nat × sx_C)} {z : Nat → Nat} {σ : Nat → Int} {n : Int} (hLB : bk_lb LB = true) (hq : gs_ok q) (hb : gs_bits q a b c d e f g h) (hf : gs_fix q σ) (hc : gs_cnt n σ) {y : Bool} (hn : n + 1 ≤ 3800) : ∃ σ' : Nat → Int, gs_fix q σ' ∧ gs_cnt (n + 1) σ' ∧ σ' 16 = σ 16 ∧ σ' 10 = σ 10 ∧ σ' 13 = σ 13 ∧ gx_G 40 sm_X8_go 14 560 9 135 z σ (bk_pt 4 xL [] (gp_QC a b c d e f g h y LB) 300) σ' (bk_pt 4 xL [] (gp_PA a b c d e f g h y LB) 300) := by
  have hf0 := hf
  have hc0 := hc
  have hq0 := hq
  obtain ⟨f1, f2, f3, f4, f5, f6, f7, f8, f9, f10, f11⟩ := hf
  obtain ⟨⟨q1, q2, q3, q4, q5, q6, q7, q8, q9, q10, q11, q12⟩, ⟨q13, q14, q15⟩, ⟨q16, q17, q18⟩, ⟨q19, q20⟩, q21, q22⟩ := hq
  obtain ⟨b1, b2, b3, b4, b5, b6, b7, b8⟩ := hb
  cases y
  · exact ⟨sx_σi [(18, (.ofNat 2, [(18, .ofNat 1)]))] σ, gs_fix_of rfl hf0, gs_cnt_of rfl hc0 hn, gs_none rfl, gs_none rfl, gs_none rfl, gs_lo rfl, tv_a1_f a b c d e f g h hLB (gs_F hq0 hf0 hc0 (by (repeat' (first | exact bk_F0 | (refine bk_F1 ?_ ?_))) <;> (simp only [sx_ev, sx_evl, gs_ofNat, gs_neg] ; omega))) (by (repeat' (first | exact gs_t0 | (refine gs_t1 ?_ ?_))) <;> (simp only [sx_ev, sx_evl, gs_ofNat, gs_neg] ; omega))⟩
  · exact ⟨sx_σi [(18, (.ofNat 2, [(18, .ofNat 1)]))] σ, gs_fix_of rfl hf0, gs_cnt_of rfl hc0 hn, gs_none rfl, gs_none rfl, gs_none rfl, gs_lo rfl, tv_a1_t a b c d e f g h hLB (gs_F hq0 hf0 hc0 (by (repeat' (first | exact bk_F0 | (refine bk_F1 ?_ ?_))) <;> (simp only [sx_ev, sx_evl, gs_ofNat, gs_neg] ; omega))) (by (repeat' (first | exact gs_t0 | (refine gs_t1 ?_ ?_))) <;> (simp only [sx_ev, sx_evl, gs_ofNat, gs_neg] ; omega))⟩
def gs_act (how : Nat) (x y : Int) : Option Int := match how with
  | 0 => some (x + y)
  | 1 => some (x - y)
  | 2 => some (x * y)
  | 3 => if x < y then some y else none
  | 4 => if x ≥ y then some y else none
  | _ => if x ≠ y then some y else none
theorem gs_a2 {q : gs_P} {a b c d e f g h : Bool} {LB : List (Nat × sx_C)} {z : Nat → Nat} {σ : Nat → Int} {n : Int} (hLB : bk_lb LB = true) (hq : gs_ok q) (hb : gs_bits q a b c d e f g h) (hf : gs_fix q σ) (hc : gs_cnt n σ) {y : Bool} {y0 : Int} {v0 : Int} {m : Bool} (hm : m = Nat.blt q.A 3) (hx : -6 ≤ σ 10 ∧ σ 10 ≤ 6) (hy : (y = true → σ 13 = y0) ∧ (y = false → y0 = q.d)) (hy1 : -6 ≤ y0 ∧ y0 ≤ 6) (hv : gs_act q.A (σ 10) y0 = some v0) (hn : n + 1 ≤ 3800) : ∃ σ' : Nat → Int, gs_fix q σ' ∧ gs_cnt (n + 1) σ' ∧ σ' 16 = σ 16 ∧ σ' 10 = σ 10 ∧ σ' 13 = σ 13 ∧ (m = true → σ' 14 = v0) ∧ (m = false → v0 = y0) ∧ gx_G 40 sm_X8_go 14 560 9 135 z σ (bk_pt 4 xL [] (gp_PA a b c d e f g h y LB) 300) σ' (bk_pt 4 xL [] (gp_QG a b c d e f g h y m LB) 300) := by
  have hf0 := hf
  have hc0 := hc
  have hq0 := hq
  obtain ⟨f1, f2, f3, f4, f5, f6, f7, f8, f9, f10, f11⟩ := hf
  obtain ⟨⟨q1, q2, q3, q4, q5, q6, q7, q8, q9, q10, q11, q12⟩, ⟨q13, q14, q15⟩, ⟨q16, q17, q18⟩, ⟨q19, q20⟩, q21, q22⟩ := hq
  obtain ⟨b1, b2, b3, b4, b5, b6, b7, b8⟩ := hb
  obtain ⟨y1, y2⟩ := hy
  obtain ⟨y3, y4⟩ := hy1
  obtain ⟨x1, x2⟩ := hx
  have hA : q.A = 0 ∨ q.A = 1 ∨ q.A = 2 ∨ q.A = 3 ∨ q.A = 4 ∨ q.A = 5 := by omega
  rcases hA with hA | hA | hA | hA | hA | hA <;> rw [hA] at f10 hv <;> simp only [gs_op] at f10 <;> simp only [gs_act] at hv
  · obtain rfl : m = true := by rw [hm, hA]; rfl
    have hv := Option.some.inj hv
    cases y
    · have y5 := y2 rfl
      exact ⟨sx_σi [(14, (.ofNat 0, [(10, .ofNat 1), (32, .ofNat 1)])), (18, (.ofNat 1, [(18, .ofNat 1)]))] σ, gs_fix_of rfl hf0, gs_cnt_of rfl hc0 hn, gs_none rfl, gs_none rfl, gs_none rfl, (fun _ => (gs_some rfl).trans (by (simp only [sx_ev, sx_evl, gs_ofNat, gs_neg] ; omega))), (fun e => nomatch e), gs_lo rfl, tv_a2_p_0_106_f a b c d e f g h hLB (gs_F hq0 hf0 hc0 (by (repeat' (first | exact bk_F0 | (refine bk_F1 ?_ ?_))) <;> (simp only [sx_ev, sx_evl, gs_ofNat, gs_neg] ; omega))) (by (repeat' (first | exact gs_t0 | (refine gs_t1 ?_ ?_))) <;> (simp only [sx_ev, sx_evl, gs_ofNat, gs_neg] ; omega))⟩
    · have y5 := y1 rfl
      exact ⟨sx_σi [(14, (.ofNat 0, [(10, .ofNat 1), (13, .ofNat 1)])), (18, (.ofNat 1, [(18, .ofNat 1)]))] σ, gs_fix_of rfl hf0, gs_cnt_of rfl hc0 hn, gs_none rfl, gs_none rfl, gs_none rfl, (fun _ => (gs_some rfl).trans (by (simp only [sx_ev, sx_evl, gs_ofNat, gs_neg] ; omega))), (fun e => nomatch e), gs_lo rfl, tv_a2_p_0_106_t a b c d e f g h hLB (gs_F hq0 hf0 hc0 (by (repeat' (first | exact bk_F0 | (refine bk_F1 ?_ ?_))) <;> (simp only [sx_ev, sx_evl, gs_ofNat, gs_neg] ; omega))) (by (repeat' (first | exact gs_t0 | (refine gs_t1 ?_ ?_))) <;> (simp only [sx_ev, sx_evl, gs_ofNat, gs_neg] ; omega))⟩
  · obtain rfl : m = true := by rw [hm, hA]; rfl
    have hv := Option.some.inj hv
    cases y
    · have y5 := y2 rfl
      exact ⟨sx_σi [(14, (.ofNat 0, [(10, .ofNat 1), (32, .negSucc 0)])), (18, (.ofNat 1, [(18, .ofNat 1)]))] σ, gs_fix_of rfl hf0, gs_cnt_of rfl hc0 hn, gs_none rfl, gs_none rfl, gs_none rfl, (fun _ => (gs_some rfl).trans (by (simp only [sx_ev, sx_evl, gs_ofNat, gs_neg] ; omega))), (fun e => nomatch e), gs_lo rfl, tv_a2_mi_0_106_f a b c d e f g h hLB (gs_F hq0 hf0 hc0 (by (repeat' (first | exact bk_F0 | (refine bk_F1 ?_ ?_))) <;> (simp only [sx_ev, sx_evl, gs_ofNat, gs_neg] ; omega))) (by (repeat' (first | exact gs_t0 | (refine gs_t1 ?_ ?_))) <;> (simp only [sx_ev, sx_evl, gs_ofNat, gs_neg] ; omega))⟩
    · have y5 := y1 rfl
      exact ⟨sx_σi [(14, (.ofNat 0, [(10, .ofNat 1), (13, .negSucc 0)])), (18, (.ofNat 1, [(18, .ofNat 1)]))] σ, gs_fix_of rfl hf0, gs_cnt_of rfl hc0 hn, gs_none rfl, gs_none rfl, gs_none rfl, (fun _ => (gs_some rfl).trans (by (simp only [sx_ev, sx_evl, gs_ofNat, gs_neg] ; omega))), (fun e => nomatch e), gs_lo rfl, tv_a2_mi_0_106_t a b c d e f g h hLB (gs_F hq0 hf0 hc0 (by (repeat' (first | exact bk_F0 | (refine bk_F1 ?_ ?_))) <;> (simp only [sx_ev, sx_evl, gs_ofNat, gs_neg] ; omega))) (by (repeat' (first | exact gs_t0 | (refine gs_t1 ?_ ?_))) <;> (simp only [sx_ev, sx_evl, gs_ofNat, gs_neg] ; omega))⟩
  · obtain rfl : m = true := by rw [hm, hA]; rfl
    have hv := Option.some.inj hv
    have hk : y0 = -6 ∨ y0 = -5 ∨ y0 = -4 ∨ y0 = -3 ∨ y0 = -2 ∨ y0 = -1 ∨ y0 = 0 ∨ y0 = 1 ∨ y0 = 2 ∨ y0 = 3 ∨ y0 = 4 ∨ y0 = 5 ∨ y0 = 6 := by omega
    rcases hk with hk | hk | hk | hk | hk | hk | hk | hk | hk | hk | hk | hk | hk <;> rw [hk] at hv <;> rcases Int.le_total 0 (σ 10) with h0 | h0 <;> cases y
    · have y5 := y2 rfl
      exact ⟨sx_σi [(14, (.ofNat 0, [(10, .negSucc 5)])), (18, (.ofNat 1, [(18, .ofNat 1)]))] σ, gs_fix_of rfl hf0, gs_cnt_of rfl hc0 hn, gs_none rfl, gs_none rfl, gs_none rfl, (fun _ => (gs_some rfl).trans (by (simp only [sx_ev, sx_evl, gs_ofNat, gs_neg] ; omega))), (fun e => nomatch e), gs_lo rfl, tv_a2_t_0_106_f a b c d e f g h hLB (gs_F hq0 hf0 hc0 (by (repeat' (first | exact bk_F0 | (refine bk_F1 ?_ ?_))) <;> (simp only [sx_ev, sx_evl, gs_ofNat, gs_neg] ; omega))) (by (repeat' (first | exact gs_t0 | (refine gs_t1 ?_ ?_))) <;> (simp only [sx_ev, sx_evl, gs_ofNat, gs_neg] ; omega))⟩
    · have y5 := y1 rfl
      exact ⟨sx_σi [(14, (.ofNat 0, [(10, .negSucc 5)])), (18, (.ofNat 1, [(18, .ofNat 1)]))] σ, gs_fix_of rfl hf0, gs_cnt_of rfl hc0 hn, gs_none rfl, gs_none rfl, gs_none rfl, (fun _ => (gs_some rfl).trans (by (simp only [sx_ev, sx_evl, gs_ofNat, gs_neg] ; omega))), (fun e => nomatch e), gs_lo rfl, tv_a2_t_0_106_t a b c d e f g h hLB (gs_F hq0 hf0 hc0 (by (repeat' (first | exact bk_F0 | (refine bk_F1 ?_ ?_))) <;> (simp only [sx_ev, sx_evl, gs_ofNat, gs_neg] ; omega))) (by (repeat' (first | exact gs_t0 | (refine gs_t1 ?_ ?_))) <;> (simp only [sx_ev, sx_evl, gs_ofNat, gs_neg] ; omega))⟩
    · have y5 := y2 rfl
      exact ⟨sx_σi [(14, (.ofNat 0, [(10, .negSucc 5)])), (18, (.ofNat 1, [(18, .ofNat 1)]))] σ, gs_fix_of rfl hf0, gs_cnt_of rfl hc0 hn, gs_none rfl, gs_none rfl, gs_none rfl, (fun _ => (gs_some rfl).trans (by (simp only [sx_ev, sx_evl, gs_ofNat, gs_neg] ; omega))), (fun e => nomatch e), gs_lo rfl, tv_a2_t_1_106_f a b c d e f g h hLB (gs_F hq0 hf0 hc0 (by (repeat' (first | exact bk_F0 | (refine bk_F1 ?_ ?_))) <;> (simp only [sx_ev, sx_evl, gs_ofNat, gs_neg] ; omega))) (by (repeat' (first | exact gs_t0 | (refine gs_t1 ?_ ?_))) <;> (simp only [sx_ev, sx_evl, gs_ofNat, gs_neg] ; omega))⟩
    · have y5 := y1 rfl
      exact ⟨sx_σi [(14, (.ofNat 0, [(10, .negSucc 5)])), (18, (.ofNat 1, [(18, .ofNat 1)]))] σ, gs_fix_of rfl hf0, gs_cnt_of rfl hc0 hn, gs_none rfl, gs_none rfl, gs_none rfl, (fun _ => (gs_some rfl).trans (by (simp only [sx_ev, sx_evl, gs_ofNat, gs_neg] ; omega))), (fun e => nomatch e), gs_lo rfl, tv_a2_t_1_106_t a b c d e f g h hLB (gs_F hq0 hf0 hc0 (by (repeat' (first | exact bk_F0 | (refine bk_F1 ?_ ?_))) <;> (simp only [sx_ev, sx_evl, gs_ofNat, gs_neg] ; omega))) (by (repeat' (first | exact gs_t0 | (refine gs_t1 ?_ ?_))) <;> (simp only [sx_ev, sx_evl, gs_ofNat, gs_neg] ; omega))⟩
    · have y5 := y2 rfl
      exact ⟨sx_σi [(14, (.ofNat 0, [(10, .negSucc 4)])), (18, (.ofNat 1, [(18, .ofNat 1)]))] σ, gs_fix_of rfl hf0, gs_cnt_of rfl hc0 hn, gs_none rfl, gs_none rfl, gs_none rfl, (fun _ => (gs_some rfl).trans (by (simp only [sx_ev, sx_evl, gs_ofNat, gs_neg] ; omega))), (fun e => nomatch e), gs_lo rfl, tv_a2_t_2_106_f a b c d e f g h hLB (gs_F hq0 hf0 hc0 (by (repeat' (first | exact bk_F0 | (refine bk_F1 ?_ ?_))) <;> (simp only [sx_ev, sx_evl, gs_ofNat, gs_neg] ; omega))) (by (repeat' (first | exact gs_t0 | (refine gs_t1 ?_ ?_))) <;> (simp only [sx_ev, sx_evl, gs_ofNat, gs_neg] ; omega))⟩
    · have y5 := y1 rfl
      exact ⟨sx_σi [(14, (.ofNat 0, [(10, .negSucc 4)])), (18, (.ofNat 1, [(18, .ofNat 1)]))] σ, gs_fix_of rfl hf0, gs_cnt_of rfl hc0 hn, gs_none rfl, gs_none rfl, gs_none rfl, (fun _ => (gs_some rfl).trans (by (simp only [sx_ev, sx_evl, gs_ofNat, gs_neg] ; omega))), (fun e => nomatch e), gs_lo rfl, tv_a2_t_2_106_t a b c d e f g h hLB (gs_F hq0 hf0 hc0 (by (repeat' (first | exact bk_F0 | (refine bk_F1 ?_ ?_))) <;> (simp only [sx_ev, sx_evl, gs_ofNat, gs_neg] ; omega))) (by (repeat' (first | exact gs_t0 | (refine gs_t1 ?_ ?_))) <;> (simp only [sx_ev, sx_evl, gs_ofNat, gs_neg] ; omega))⟩
    · have y5 := y2 rfl
      exact ⟨sx_σi [(14, (.ofNat 0, [(10, .negSucc 4)])), (18, (.ofNat 1, [(18, .ofNat 1)]))] σ, gs_fix_of rfl hf0, gs_cnt_of rfl hc0 hn, gs_none rfl, gs_none rfl, gs_none rfl, (fun _ => (gs_some rfl).trans (by (simp only [sx_ev, sx_evl, gs_ofNat, gs_neg] ; omega))), (fun e => nomatch e), gs_lo rfl, tv_a2_t_3_106_f a b c d e f g h hLB (gs_F hq0 hf0 hc0 (by (repeat' (first | exact bk_F0 | (refine bk_F1 ?_ ?_))) <;> (simp only [sx_ev, sx_evl, gs_ofNat, gs_neg] ; omega))) (by (repeat' (first | exact gs_t0 | (refine gs_t1 ?_ ?_))) <;> (simp only [sx_ev, sx_evl, gs_ofNat, gs_neg] ; omega))⟩
    · have y5 := y1 rfl
      exact ⟨sx_σi [(14, (.ofNat 0, [(10, .negSucc 4)])), (18, (.ofNat 1, [(18, .ofNat 1)]))] σ, gs_fix_of rfl hf0, gs_cnt_of rfl hc0 hn, gs_none rfl, gs_none rfl, gs_none rfl, (fun _ => (gs_some rfl).trans (by (simp only [sx_ev, sx_evl, gs_ofNat, gs_neg] ; omega))), (fun e => nomatch e), gs_lo rfl, tv_a2_t_3_106_t a b c d e f g h hLB (gs_F hq0 hf0 hc0 (by (repeat' (first | exact bk_F0 | (refine bk_F1 ?_ ?_))) <;> (simp only [sx_ev, sx_evl, gs_ofNat, gs_neg] ; omega))) (by (repeat' (first | exact gs_t0 | (refine gs_t1 ?_ ?_))) <;> (simp only [sx_ev, sx_evl, gs_ofNat, gs_neg] ; omega))⟩
    · have y5 := y2 rfl
      exact ⟨sx_σi [(14, (.ofNat 0, [(10, .negSucc 3)])), (18, (.ofNat 1, [(18, .ofNat 1)]))] σ, gs_fix_of rfl hf0, gs_cnt_of rfl hc0 hn, gs_none rfl, gs_none rfl, gs_none rfl, (fun _ => (gs_some rfl).trans (by (simp only [sx_ev, sx_evl, gs_ofNat, gs_neg] ; omega))), (fun e => nomatch e), gs_lo rfl, tv_a2_t_4_106_f a b c d e f g h hLB (gs_F hq0 hf0 hc0 (by (repeat' (first | exact bk_F0 | (refine bk_F1 ?_ ?_))) <;> (simp only [sx_ev, sx_evl, gs_ofNat, gs_neg] ; omega))) (by (repeat' (first | exact gs_t0 | (refine gs_t1 ?_ ?_))) <;> (simp only [sx_ev, sx_evl, gs_ofNat, gs_neg] ; omega))⟩
    · have y5 := y1 rfl
      exact ⟨sx_σi [(14, (.ofNat 0, [(10, .negSucc 3)])), (18, (.ofNat 1, [(18, .ofNat 1)]))] σ, gs_fix_of rfl hf0, gs_cnt_of rfl hc0 hn, gs_none rfl, gs_none rfl, gs_none rfl, (fun _ => (gs_some rfl).trans (by (simp only [sx_ev, sx_evl, gs_ofNat, gs_neg] ; omega))), (fun e => nomatch e), gs_lo rfl, tv_a2_t_4_106_t a b c d e f g h hLB (gs_F hq0 hf0 hc0 (by (repeat' (first | exact bk_F0 | (refine bk_F1 ?_ ?_))) <;> (simp only [sx_ev, sx_evl, gs_ofNat, gs_neg] ; omega))) (by (repeat' (first | exact gs_t0 | (refine gs_t1 ?_ ?_))) <;> (simp only [sx_ev, sx_evl, gs_ofNat, gs_neg] ; omega))⟩
    · have y5 := y2 rfl
      exact ⟨sx_σi [(14, (.ofNat 0, [(10, .negSucc 3)])), (18, (.ofNat 1, [(18, .ofNat 1)]))] σ, gs_fix_of rfl hf0, gs_cnt_of rfl hc0 hn, gs_none rfl, gs_none rfl, gs_none rfl, (fun _ => (gs_some rfl).trans (by (simp only [sx_ev, sx_evl, gs_ofNat, gs_neg] ; omega))), (fun e => nomatch e), gs_lo rfl, tv_a2_t_5_106_f a b c d e f g h hLB (gs_F hq0 hf0 hc0 (by (repeat' (first | exact bk_F0 | (refine bk_F1 ?_ ?_))) <;> (simp only [sx_ev, sx_evl, gs_ofNat, gs_neg] ; omega))) (by (repeat' (first | exact gs_t0 | (refine gs_t1 ?_ ?_))) <;> (simp only [sx_ev, sx_evl, gs_ofNat, gs_neg] ; omega))⟩
    · have y5 := y1 rfl
      exact ⟨sx_σi [(14, (.ofNat 0, [(10, .negSucc 3)])), (18, (.ofNat 1, [(18, .ofNat 1)]))] σ, gs_fix_of rfl hf0, gs_cnt_of rfl hc0 hn, gs_none rfl, gs_none rfl, gs_none rfl, (fun _ => (gs_some rfl).trans (by (simp only [sx_ev, sx_evl, gs_ofNat, gs_neg] ; omega))), (fun e => nomatch e), gs_lo rfl, tv_a2_t_5_106_t a b c d e f g h hLB (gs_F hq0 hf0 hc0 (by (repeat' (first | exact bk_F0 | (refine bk_F1 ?_ ?_))) <;> (simp only [sx_ev, sx_evl, gs_ofNat, gs_neg] ; omega))) (by (repeat' (first | exact gs_t0 | (refine gs_t1 ?_ ?_))) <;> (simp only [sx_ev, sx_evl, gs_ofNat, gs_neg] ; omega))⟩
    · have y5 := y2 rfl
      exact ⟨sx_σi [(14, (.ofNat 0, [(10, .negSucc 2)])), (18, (.ofNat 1, [(18, .ofNat 1)]))] σ, gs_fix_of rfl hf0, gs_cnt_of rfl hc0 hn, gs_none rfl, gs_none rfl, gs_none rfl, (fun _ => (gs_some rfl).trans (by (simp only [sx_ev, sx_evl, gs_ofNat, gs_neg] ; omega))), (fun e => nomatch e), gs_lo rfl, tv_a2_t_6_106_f a b c d e f g h hLB (gs_F hq0 hf0 hc0 (by (repeat' (first | exact bk_F0 | (refine bk_F1 ?_ ?_))) <;> (simp only [sx_ev, sx_evl, gs_ofNat, gs_neg] ; omega))) (by (repeat' (first | exact gs_t0 | (refine gs_t1 ?_ ?_))) <;> (simp only [sx_ev, sx_evl, gs_ofNat, gs_neg] ; omega))⟩
    · have y5 := y1 rfl
      exact ⟨sx_σi [(14, (.ofNat 0, [(10, .negSucc 2)])), (18, (.ofNat 1, [(18, .ofNat 1)]))] σ, gs_fix_of rfl hf0, gs_cnt_of rfl hc0 hn, gs_none rfl, gs_none rfl, gs_none rfl, (fun _ => (gs_some rfl).trans (by (simp only [sx_ev, sx_evl, gs_ofNat, gs_neg] ; omega))), (fun e => nomatch e), gs_lo rfl, tv_a2_t_6_106_t a b c d e f g h hLB (gs_F hq0 hf0 hc0 (by (repeat' (first | exact bk_F0 | (refine bk_F1 ?_ ?_))) <;> (simp only [sx_ev, sx_evl, gs_ofNat, gs_neg] ; omega))) (by (repeat' (first | exact gs_t0 | (refine gs_t1 ?_ ?_))) <;> (simp only [sx_ev, sx_evl, gs_ofNat, gs_neg] ; omega))⟩
    · have y5 := y2 rfl
      exact ⟨sx_σi [(14, (.ofNat 0, [(10, .negSucc 2)])), (18, (.ofNat 1, [(18, .ofNat 1)]))] σ, gs_fix_of rfl hf0, gs_cnt_of rfl hc0 hn, gs_none rfl, gs_none rfl, gs_none rfl, (fun _ => (gs_some rfl).trans (by (simp only [sx_ev, sx_evl, gs_ofNat, gs_neg] ; omega))), (fun e => nomatch e), gs_lo rfl, tv_a2_t_7_106_f a b c d e f g h hLB (gs_F hq0 hf0 hc0 (by (repeat' (first | exact bk_F0 | (refine bk_F1 ?_ ?_))) <;> (simp only [sx_ev, sx_evl, gs_ofNat, gs_neg] ; omega))) (by (repeat' (first | exact gs_t0 | (refine gs_t1 ?_ ?_))) <;> (simp only [sx_ev, sx_evl, gs_ofNat, gs_neg] ; omega))⟩
    · have y5 := y1 rfl
      exact ⟨sx_σi [(14, (.ofNat 0, [(10, .negSucc 2)])), (18, (.ofNat 1, [(18, .ofNat 1)]))] σ, gs_fix_of rfl hf0, gs_cnt_of rfl hc0 hn, gs_none rfl, gs_none rfl, gs_none rfl, (fun _ => (gs_some rfl).trans (by (simp only [sx_ev, sx_evl, gs_ofNat, gs_neg] ; omega))), (fun e => nomatch e), gs_lo rfl, tv_a2_t_7_106_t a b c d e f g h hLB (gs_F hq0 hf0 hc0 (by (repeat' (first | exact bk_F0 | (refine bk_F1 ?_ ?_))) <;> (simp only [sx_ev, sx_evl, gs_ofNat, gs_neg] ; omega))) (by (repeat' (first | exact gs_t0 | (refine gs_t1 ?_ ?_))) <;> (simp only [sx_ev, sx_evl, gs_ofNat, gs_neg] ; omega))⟩
    · have y5 := y2 rfl
      exact ⟨sx_σi [(14, (.ofNat 0, [(10, .negSucc 1)])), (18, (.ofNat 1, [(18, .ofNat 1)]))] σ, gs_fix_of rfl hf0, gs_cnt_of rfl hc0 hn, gs_none rfl, gs_none rfl, gs_none rfl, (fun _ => (gs_some rfl).trans (by (simp only [sx_ev, sx_evl, gs_ofNat, gs_neg] ; omega))), (fun e => nomatch e), gs_lo rfl, tv_a2_t_8_106_f a b c d e f g h hLB (gs_F hq0 hf0 hc0 (by (repeat' (first | exact bk_F0 | (refine bk_F1 ?_ ?_))) <;> (simp only [sx_ev, sx_evl, gs_ofNat, gs_neg] ; omega))) (by (repeat' (first | exact gs_t0 | (refine gs_t1 ?_ ?_))) <;> (simp only [sx_ev, sx_evl, gs_ofNat, gs_neg] ; omega))⟩
    · have y5 := y1 rfl
      exact ⟨sx_σi [(14, (.ofNat 0, [(10, .negSucc 1)])), (18, (.ofNat 1, [(18, .ofNat 1)]))] σ, gs_fix_of rfl hf0, gs_cnt_of rfl hc0 hn, gs_none rfl, gs_none rfl, gs_none rfl, (fun _ => (gs_some rfl).trans (by (simp only [sx_ev, sx_evl, gs_ofNat, gs_neg] ; omega))), (fun e => nomatch e), gs_lo rfl, tv_a2_t_8_106_t a b c d e f g h hLB (gs_F hq0 hf0 hc0 (by (repeat' (first | exact bk_F0 | (refine bk_F1 ?_ ?_))) <;> (simp only [sx_ev, sx_evl, gs_ofNat, gs_neg] ; omega))) (by (repeat' (first | exact gs_t0 | (refine gs_t1 ?_ ?_))) <;> (simp only [sx_ev, sx_evl, gs_ofNat, gs_neg] ; omega))⟩
    · have y5 := y2 rfl
      exact ⟨sx_σi [(14, (.ofNat 0, [(10, .negSucc 1)])), (18, (.ofNat 1, [(18, .ofNat 1)]))] σ, gs_fix_of rfl hf0, gs_cnt_of rfl hc0 hn, gs_none rfl, gs_none rfl, gs_none rfl, (fun _ => (gs_some rfl).trans (by (simp only [sx_ev, sx_evl, gs_ofNat, gs_neg] ; omega))), (fun e => nomatch e), gs_lo rfl, tv_a2_t_9_106_f a b c d e f g h hLB (gs_F hq0 hf0 hc0 (by (repeat' (first | exact bk_F0 | (refine bk_F1 ?_ ?_))) <;> (simp only [sx_ev, sx_evl, gs_ofNat, gs_neg] ; omega))) (by (repeat' (first | exact gs_t0 | (refine gs_t1 ?_ ?_))) <;> (simp only [sx_ev, sx_evl, gs_ofNat, gs_neg] ; omega))⟩
    · have y5 := y1 rfl
      exact ⟨sx_σi [(14, (.ofNat 0, [(10, .negSucc 1)])), (18, (.ofNat 1, [(18, .ofNat 1)]))] σ, gs_fix_of rfl hf0, gs_cnt_of rfl hc0 hn, gs_none rfl, gs_none rfl, gs_none rfl, (fun _ => (gs_some rfl).trans (by (simp only [sx_ev, sx_evl, gs_ofNat, gs_neg] ; omega))), (fun e => nomatch e), gs_lo rfl, tv_a2_t_9_106_t a b c d e f g h hLB (gs_F hq0 hf0 hc0 (by (repeat' (first | exact bk_F0 | (refine bk_F1 ?_ ?_))) <;> (simp only [sx_ev, sx_evl, gs_ofNat, gs_neg] ; omega))) (by (repeat' (first | exact gs_t0 | (refine gs_t1 ?_ ?_))) <;> (simp only [sx_ev, sx_evl, gs_ofNat, gs_neg] ; omega))⟩
    · have y5 := y2 rfl
      exact ⟨sx_σi [(14, (.ofNat 0, [(10, .negSucc 0)])), (18, (.ofNat 1, [(18, .ofNat 1)]))] σ, gs_fix_of rfl hf0, gs_cnt_of rfl hc0 hn, gs_none rfl, gs_none rfl, gs_none rfl, (fun _ => (gs_some rfl).trans (by (simp only [sx_ev, sx_evl, gs_ofNat, gs_neg] ; omega))), (fun e => nomatch e), gs_lo rfl, tv_a2_t_10_106_f a b c d e f g h hLB (gs_F hq0 hf0 hc0 (by (repeat' (first | exact bk_F0 | (refine bk_F1 ?_ ?_))) <;> (simp only [sx_ev, sx_evl, gs_ofNat, gs_neg] ; omega))) (by (repeat' (first | exact gs_t0 | (refine gs_t1 ?_ ?_))) <;> (simp only [sx_ev, sx_evl, gs_ofNat, gs_neg] ; omega))⟩
    · have y5 := y1 rfl
      exact ⟨sx_σi [(14, (.ofNat 0, [(10, .negSucc 0)])), (18, (.ofNat 1, [(18, .ofNat 1)]))] σ, gs_fix_of rfl hf0, gs_cnt_of rfl hc0 hn, gs_none rfl, gs_none rfl, gs_none rfl, (fun _ => (gs_some rfl).trans (by (simp only [sx_ev, sx_evl, gs_ofNat, gs_neg] ; omega))), (fun e => nomatch e), gs_lo rfl, tv_a2_t_10_106_t a b c d e f g h hLB (gs_F hq0 hf0 hc0 (by (repeat' (first | exact bk_F0 | (refine bk_F1 ?_ ?_))) <;> (simp only [sx_ev, sx_evl, gs_ofNat, gs_neg] ; omega))) (by (repeat' (first | exact gs_t0 | (refine gs_t1 ?_ ?_))) <;> (simp only [sx_ev, sx_evl, gs_ofNat, gs_neg] ; omega))⟩
    · have y5 := y2 rfl
      exact ⟨sx_σi [(14, (.ofNat 0, [(10, .negSucc 0)])), (18, (.ofNat 1, [(18, .ofNat 1)]))] σ, gs_fix_of rfl hf0, gs_cnt_of rfl hc0 hn, gs_none rfl, gs_none rfl, gs_none rfl, (fun _ => (gs_some rfl).trans (by (simp only [sx_ev, sx_evl, gs_ofNat, gs_neg] ; omega))), (fun e => nomatch e), gs_lo rfl, tv_a2_t_11_106_f a b c d e f g h hLB (gs_F hq0 hf0 hc0 (by (repeat' (first | exact bk_F0 | (refine bk_F1 ?_ ?_))) <;> (simp only [sx_ev, sx_evl, gs_ofNat, gs_neg] ; omega))) (by (repeat' (first | exact gs_t0 | (refine gs_t1 ?_ ?_))) <;> (simp only [sx_ev, sx_evl, gs_ofNat, gs_neg] ; omega))⟩
    · have y5 := y1 rfl
      exact ⟨sx_σi [(14, (.ofNat 0, [(10, .negSucc 0)])), (18, (.ofNat 1, [(18, .ofNat 1)]))] σ, gs_fix_of rfl hf0, gs_cnt_of rfl hc0 hn, gs_none rfl, gs_none rfl, gs_none rfl, (fun _ => (gs_some rfl).trans (by (simp only [sx_ev, sx_evl, gs_ofNat, gs_neg] ; omega))), (fun e => nomatch e), gs_lo rfl, tv_a2_t_11_106_t a b c d e f g h hLB (gs_F hq0 hf0 hc0 (by (repeat' (first | exact bk_F0 | (refine bk_F1 ?_ ?_))) <;> (simp only [sx_ev, sx_evl, gs_ofNat, gs_neg] ; omega))) (by (repeat' (first | exact gs_t0 | (refine gs_t1 ?_ ?_))) <;> (simp only [sx_ev, sx_evl, gs_ofNat, gs_neg] ; omega))⟩
    · have y5 := y2 rfl
      exact ⟨sx_σi [(14, (.ofNat 0, [])), (18, (.ofNat 1, [(18, .ofNat 1)]))] σ, gs_fix_of rfl hf0, gs_cnt_of rfl hc0 hn, gs_none rfl, gs_none rfl, gs_none rfl, (fun _ => (gs_some rfl).trans (by (simp only [sx_ev, sx_evl, gs_ofNat, gs_neg] ; omega))), (fun e => nomatch e), gs_lo rfl, tv_a2_t_12_106_f a b c d e f g h hLB (gs_F hq0 hf0 hc0 (by (repeat' (first | exact bk_F0 | (refine bk_F1 ?_ ?_))) <;> (simp only [sx_ev, sx_evl, gs_ofNat, gs_neg] ; omega))) (by (repeat' (first | exact gs_t0 | (refine gs_t1 ?_ ?_))) <;> (simp only [sx_ev, sx_evl, gs_ofNat, gs_neg] ; omega))⟩
    · have y5 := y1 rfl
      exact ⟨sx_σi [(14, (.ofNat 0, [])), (18, (.ofNat 1, [(18, .ofNat 1)]))] σ, gs_fix_of rfl hf0, gs_cnt_of rfl hc0 hn, gs_none rfl, gs_none rfl, gs_none rfl, (fun _ => (gs_some rfl).trans (by (simp only [sx_ev, sx_evl, gs_ofNat, gs_neg] ; omega))), (fun e => nomatch e), gs_lo rfl, tv_a2_t_12_106_t a b c d e f g h hLB (gs_F hq0 hf0 hc0 (by (repeat' (first | exact bk_F0 | (refine bk_F1 ?_ ?_))) <;> (simp only [sx_ev, sx_evl, gs_ofNat, gs_neg] ; omega))) (by (repeat' (first | exact gs_t0 | (refine gs_t1 ?_ ?_))) <;> (simp only [sx_ev, sx_evl, gs_ofNat, gs_neg] ; omega))⟩
    · have y5 := y2 rfl
      exact ⟨sx_σi [(14, (.ofNat 0, [])), (18, (.ofNat 1, [(18, .ofNat 1)]))] σ, gs_fix_of rfl hf0, gs_cnt_of rfl hc0 hn, gs_none rfl, gs_none rfl, gs_none rfl, (fun _ => (gs_some rfl).trans (by (simp only [sx_ev, sx_evl, gs_ofNat, gs_neg] ; omega))), (fun e => nomatch e), gs_lo rfl, tv_a2_t_13_106_f a b c d e f g h hLB (gs_F hq0 hf0 hc0 (by (repeat' (first | exact bk_F0 | (refine bk_F1 ?_ ?_))) <;> (simp only [sx_ev, sx_evl, gs_ofNat, gs_neg] ; omega))) (by (repeat' (first | exact gs_t0 | (refine gs_t1 ?_ ?_))) <;> (simp only [sx_ev, sx_evl, gs_ofNat, gs_neg] ; omega))⟩
    · have y5 := y1 rfl
      exact ⟨sx_σi [(14, (.ofNat 0, [])), (18, (.ofNat 1, [(18, .ofNat 1)]))] σ, gs_fix_of rfl hf0, gs_cnt_of rfl hc0 hn, gs_none rfl, gs_none rfl, gs_none rfl, (fun _ => (gs_some rfl).trans (by (simp only [sx_ev, sx_evl, gs_ofNat, gs_neg] ; omega))), (fun e => nomatch e), gs_lo rfl, tv_a2_t_13_106_t a b c d e f g h hLB (gs_F hq0 hf0 hc0 (by (repeat' (first | exact bk_F0 | (refine bk_F1 ?_ ?_))) <;> (simp only [sx_ev, sx_evl, gs_ofNat, gs_neg] ; omega))) (by (repeat' (first | exact gs_t0 | (refine gs_t1 ?_ ?_))) <;> (simp only [sx_ev, sx_evl, gs_ofNat, gs_neg] ; omega))⟩
    · have y5 := y2 rfl
      exact ⟨sx_σi [(14, (.ofNat 0, [(10, .ofNat 1)])), (18, (.ofNat 1, [(18, .ofNat 1)]))] σ, gs_fix_of rfl hf0, gs_cnt_of rfl hc0 hn, gs_none rfl, gs_none rfl, gs_none rfl, (fun _ => (gs_some rfl).trans (by (simp only [sx_ev, sx_evl, gs_ofNat, gs_neg] ; omega))), (fun e => nomatch e), gs_lo rfl, tv_a2_t_14_106_f a b c d e f g h hLB (gs_F hq0 hf0 hc0 (by (repeat' (first | exact bk_F0 | (refine bk_F1 ?_ ?_))) <;> (simp only [sx_ev, sx_evl, gs_ofNat, gs_neg] ; omega))) (by (repeat' (first | exact gs_t0 | (refine gs_t1 ?_ ?_))) <;> (simp only [sx_ev, sx_evl, gs_ofNat, gs_neg] ; omega))⟩
    · have y5 := y1 rfl
      exact ⟨sx_σi [(14, (.ofNat 0, [(10, .ofNat 1)])), (18, (.ofNat 1, [(18, .ofNat 1)]))] σ, gs_fix_of rfl hf0, gs_cnt_of rfl hc0 hn, gs_none rfl, gs_none rfl, gs_none rfl, (fun _ => (gs_some rfl).trans (by (simp only [sx_ev, sx_evl, gs_ofNat, gs_neg] ; omega))), (fun e => nomatch e), gs_lo rfl, tv_a2_t_14_106_t a b c d e f g h hLB (gs_F hq0 hf0 hc0 (by (repeat' (first | exact bk_F0 | (refine bk_F1 ?_ ?_))) <;> (simp only [sx_ev, sx_evl, gs_ofNat, gs_neg] ; omega))) (by (repeat' (first | exact gs_t0 | (refine gs_t1 ?_ ?_))) <;> (simp only [sx_ev, sx_evl, gs_ofNat, gs_neg] ; omega))⟩
    · have y5 := y2 rfl
      exact ⟨sx_σi [(14, (.ofNat 0, [(10, .ofNat 1)])), (18, (.ofNat 1, [(18, .ofNat 1)]))] σ, gs_fix_of rfl hf0, gs_cnt_of rfl hc0 hn, gs_none rfl, gs_none rfl, gs_none rfl, (fun _ => (gs_some rfl).trans (by (simp only [sx_ev, sx_evl, gs_ofNat, gs_neg] ; omega))), (fun e => nomatch e), gs_lo rfl, tv_a2_t_15_106_f a b c d e f g h hLB (gs_F hq0 hf0 hc0 (by (repeat' (first | exact bk_F0 | (refine bk_F1 ?_ ?_))) <;> (simp only [sx_ev, sx_evl, gs_ofNat, gs_neg] ; omega))) (by (repeat' (first | exact gs_t0 | (refine gs_t1 ?_ ?_))) <;> (simp only [sx_ev, sx_evl, gs_ofNat, gs_neg] ; omega))⟩
    · have y5 := y1 rfl
      exact ⟨sx_σi [(14, (.ofNat 0, [(10, .ofNat 1)])), (18, (.ofNat 1, [(18, .ofNat 1)]))] σ, gs_fix_of rfl hf0, gs_cnt_of rfl hc0 hn, gs_none rfl, gs_none rfl, gs_none rfl, (fun _ => (gs_some rfl).trans (by (simp only [sx_ev, sx_evl, gs_ofNat, gs_neg] ; omega))), (fun e => nomatch e), gs_lo rfl, tv_a2_t_15_106_t a b c d e f g h hLB (gs_F hq0 hf0 hc0 (by (repeat' (first | exact bk_F0 | (refine bk_F1 ?_ ?_))) <;> (simp only [sx_ev, sx_evl, gs_ofNat, gs_neg] ; omega))) (by (repeat' (first | exact gs_t0 | (refine gs_t1 ?_ ?_))) <;> (simp only [sx_ev, sx_evl, gs_ofNat, gs_neg] ; omega))⟩
    · have y5 := y2 rfl
      exact ⟨sx_σi [(14, (.ofNat 0, [(10, .ofNat 2)])), (18, (.ofNat 1, [(18, .ofNat 1)]))] σ, gs_fix_of rfl hf0, gs_cnt_of rfl hc0 hn, gs_none rfl, gs_none rfl, gs_none rfl, (fun _ => (gs_some rfl).trans (by (simp only [sx_ev, sx_evl, gs_ofNat, gs_neg] ; omega))), (fun e => nomatch e), gs_lo rfl, tv_a2_t_16_106_f a b c d e f g h hLB (gs_F hq0 hf0 hc0 (by (repeat' (first | exact bk_F0 | (refine bk_F1 ?_ ?_))) <;> (simp only [sx_ev, sx_evl, gs_ofNat, gs_neg] ; omega))) (by (repeat' (first | exact gs_t0 | (refine gs_t1 ?_ ?_))) <;> (simp only [sx_ev, sx_evl, gs_ofNat, gs_neg] ; omega))⟩
    · have y5 := y1 rfl
      exact ⟨sx_σi [(14, (.ofNat 0, [(10, .ofNat 2)])), (18, (.ofNat 1, [(18, .ofNat 1)]))] σ, gs_fix_of rfl hf0, gs_cnt_of rfl hc0 hn, gs_none rfl, gs_none rfl, gs_none rfl, (fun _ => (gs_some rfl).trans (by (simp only [sx_ev, sx_evl, gs_ofNat, gs_neg] ; omega))), (fun e => nomatch e), gs_lo rfl, tv_a2_t_16_106_t a b c d e f g h hLB (gs_F hq0 hf0 hc0 (by (repeat' (first | exact bk_F0 | (refine bk_F1 ?_ ?_))) <;> (simp only [sx_ev, sx_evl, gs_ofNat, gs_neg] ; omega))) (by (repeat' (first | exact gs_t0 | (refine gs_t1 ?_ ?_))) <;> (simp only [sx_ev, sx_evl, gs_ofNat, gs_neg] ; omega))⟩
    · have y5 := y2 rfl
      exact ⟨sx_σi [(14, (.ofNat 0, [(10, .ofNat 2)])), (18, (.ofNat 1, [(18, .ofNat 1)]))] σ, gs_fix_of rfl hf0, gs_cnt_of rfl hc0 hn, gs_none rfl, gs_none rfl, gs_none rfl, (fun _ => (gs_some rfl).trans (by (simp only [sx_ev, sx_evl, gs_ofNat, gs_neg] ; omega))), (fun e => nomatch e), gs_lo rfl, tv_a2_t_17_106_f a b c d e f g h hLB (gs_F hq0 hf0 hc0 (by (repeat' (first | exact bk_F0 | (refine bk_F1 ?_ ?_))) <;> (simp only [sx_ev, sx_evl, gs_ofNat, gs_neg] ; omega))) (by (repeat' (first | exact gs_t0 | (refine gs_t1 ?_ ?_))) <;> (simp only [sx_ev, sx_evl, gs_ofNat, gs_neg] ; omega))⟩
    · have y5 := y1 rfl
      exact ⟨sx_σi [(14, (.ofNat 0, [(10, .ofNat 2)])), (18, (.ofNat 1, [(18, .ofNat 1)]))] σ, gs_fix_of rfl hf0, gs_cnt_of rfl hc0 hn, gs_none rfl, gs_none rfl, gs_none rfl, (fun _ => (gs_some rfl).trans (by (simp only [sx_ev, sx_evl, gs_ofNat, gs_neg] ; omega))), (fun e => nomatch e), gs_lo rfl, tv_a2_t_17_106_t a b c d e f g h hLB (gs_F hq0 hf0 hc0 (by (repeat' (first | exact bk_F0 | (refine bk_F1 ?_ ?_))) <;> (simp only [sx_ev, sx_evl, gs_ofNat, gs_neg] ; omega))) (by (repeat' (first | exact gs_t0 | (refine gs_t1 ?_ ?_))) <;> (simp only [sx_ev, sx_evl, gs_ofNat, gs_neg] ; omega))⟩
    · have y5 := y2 rfl
      exact ⟨sx_σi [(14, (.ofNat 0, [(10, .ofNat 3)])), (18, (.ofNat 1, [(18, .ofNat 1)]))] σ, gs_fix_of rfl hf0, gs_cnt_of rfl hc0 hn, gs_none rfl, gs_none rfl, gs_none rfl, (fun _ => (gs_some rfl).trans (by (simp only [sx_ev, sx_evl, gs_ofNat, gs_neg] ; omega))), (fun e => nomatch e), gs_lo rfl, tv_a2_t_18_106_f a b c d e f g h hLB (gs_F hq0 hf0 hc0 (by (repeat' (first | exact bk_F0 | (refine bk_F1 ?_ ?_))) <;> (simp only [sx_ev, sx_evl, gs_ofNat, gs_neg] ; omega))) (by (repeat' (first | exact gs_t0 | (refine gs_t1 ?_ ?_))) <;> (simp only [sx_ev, sx_evl, gs_ofNat, gs_neg] ; omega))⟩
    · have y5 := y1 rfl
      exact ⟨sx_σi [(14, (.ofNat 0, [(10, .ofNat 3)])), (18, (.ofNat 1, [(18, .ofNat 1)]))] σ, gs_fix_of rfl hf0, gs_cnt_of rfl hc0 hn, gs_none rfl, gs_none rfl, gs_none rfl, (fun _ => (gs_some rfl).trans (by (simp only [sx_ev, sx_evl, gs_ofNat, gs_neg] ; omega))), (fun e => nomatch e), gs_lo rfl, tv_a2_t_18_106_t a b c d e f g h hLB (gs_F hq0 hf0 hc0 (by (repeat' (first | exact bk_F0 | (refine bk_F1 ?_ ?_))) <;> (simp only [sx_ev, sx_evl, gs_ofNat, gs_neg] ; omega))) (by (repeat' (first | exact gs_t0 | (refine gs_t1 ?_ ?_))) <;> (simp only [sx_ev, sx_evl, gs_ofNat, gs_neg] ; omega))⟩
    · have y5 := y2 rfl
      exact ⟨sx_σi [(14, (.ofNat 0, [(10, .ofNat 3)])), (18, (.ofNat 1, [(18, .ofNat 1)]))] σ, gs_fix_of rfl hf0, gs_cnt_of rfl hc0 hn, gs_none rfl, gs_none rfl, gs_none rfl, (fun _ => (gs_some rfl).trans (by (simp only [sx_ev, sx_evl, gs_ofNat, gs_neg] ; omega))), (fun e => nomatch e), gs_lo rfl, tv_a2_t_19_106_f a b c d e f g h hLB (gs_F hq0 hf0 hc0 (by (repeat' (first | exact bk_F0 | (refine bk_F1 ?_ ?_))) <;> (simp only [sx_ev, sx_evl, gs_ofNat, gs_neg] ; omega))) (by (repeat' (first | exact gs_t0 | (refine gs_t1 ?_ ?_))) <;> (simp only [sx_ev, sx_evl, gs_ofNat, gs_neg] ; omega))⟩
    · have y5 := y1 rfl
      exact ⟨sx_σi [(14, (.ofNat 0, [(10, .ofNat 3)])), (18, (.ofNat 1, [(18, .ofNat 1)]))] σ, gs_fix_of rfl hf0, gs_cnt_of rfl hc0 hn, gs_none rfl, gs_none rfl, gs_none rfl, (fun _ => (gs_some rfl).trans (by (simp only [sx_ev, sx_evl, gs_ofNat, gs_neg] ; omega))), (fun e => nomatch e), gs_lo rfl, tv_a2_t_19_106_t a b c d e f g h hLB (gs_F hq0 hf0 hc0 (by (repeat' (first | exact bk_F0 | (refine bk_F1 ?_ ?_))) <;> (simp only [sx_ev, sx_evl, gs_ofNat, gs_neg] ; omega))) (by (repeat' (first | exact gs_t0 | (refine gs_t1 ?_ ?_))) <;> (simp only [sx_ev, sx_evl, gs_ofNat, gs_neg] ; omega))⟩
    · have y5 := y2 rfl
      exact ⟨sx_σi [(14, (.ofNat 0, [(10, .ofNat 4)])), (18, (.ofNat 1, [(18, .ofNat 1)]))] σ, gs_fix_of rfl hf0, gs_cnt_of rfl hc0 hn, gs_none rfl, gs_none rfl, gs_none rfl, (fun _ => (gs_some rfl).trans (by (simp only [sx_ev, sx_evl, gs_ofNat, gs_neg] ; omega))), (fun e => nomatch e), gs_lo rfl, tv_a2_t_20_106_f a b c d e f g h hLB (gs_F hq0 hf0 hc0 (by (repeat' (first | exact bk_F0 | (refine bk_F1 ?_ ?_))) <;> (simp only [sx_ev, sx_evl, gs_ofNat, gs_neg] ; omega))) (by (repeat' (first | exact gs_t0 | (refine gs_t1 ?_ ?_))) <;> (simp only [sx_ev, sx_evl, gs_ofNat, gs_neg] ; omega))⟩
    · have y5 := y1 rfl
      exact ⟨sx_σi [(14, (.ofNat 0, [(10, .ofNat 4)])), (18, (.ofNat 1, [(18, .ofNat 1)]))] σ, gs_fix_of rfl hf0, gs_cnt_of rfl hc0 hn, gs_none rfl, gs_none rfl, gs_none rfl, (fun _ => (gs_some rfl).trans (by (simp only [sx_ev, sx_evl, gs_ofNat, gs_neg] ; omega))), (fun e => nomatch e), gs_lo rfl, tv_a2_t_20_106_t a b c d e f g h hLB (gs_F hq0 hf0 hc0 (by (repeat' (first | exact bk_F0 | (refine bk_F1 ?_ ?_))) <;> (simp only [sx_ev, sx_evl, gs_ofNat, gs_neg] ; omega))) (by (repeat' (first | exact gs_t0 | (refine gs_t1 ?_ ?_))) <;> (simp only [sx_ev, sx_evl, gs_ofNat, gs_neg] ; omega))⟩
    · have y5 := y2 rfl
      exact ⟨sx_σi [(14, (.ofNat 0, [(10, .ofNat 4)])), (18, (.ofNat 1, [(18, .ofNat 1)]))] σ, gs_fix_of rfl hf0, gs_cnt_of rfl hc0 hn, gs_none rfl, gs_none rfl, gs_none rfl, (fun _ => (gs_some rfl).trans (by (simp only [sx_ev, sx_evl, gs_ofNat, gs_neg] ; omega))), (fun e => nomatch e), gs_lo rfl, tv_a2_t_21_106_f a b c d e f g h hLB (gs_F hq0 hf0 hc0 (by (repeat' (first | exact bk_F0 | (refine bk_F1 ?_ ?_))) <;> (simp only [sx_ev, sx_evl, gs_ofNat, gs_neg] ; omega))) (by (repeat' (first | exact gs_t0 | (refine gs_t1 ?_ ?_))) <;> (simp only [sx_ev, sx_evl, gs_ofNat, gs_neg] ; omega))⟩
    · have y5 := y1 rfl
      exact ⟨sx_σi [(14, (.ofNat 0, [(10, .ofNat 4)])), (18, (.ofNat 1, [(18, .ofNat 1)]))] σ, gs_fix_of rfl hf0, gs_cnt_of rfl hc0 hn, gs_none rfl, gs_none rfl, gs_none rfl, (fun _ => (gs_some rfl).trans (by (simp only [sx_ev, sx_evl, gs_ofNat, gs_neg] ; omega))), (fun e => nomatch e), gs_lo rfl, tv_a2_t_21_106_t a b c d e f g h hLB (gs_F hq0 hf0 hc0 (by (repeat' (first | exact bk_F0 | (refine bk_F1 ?_ ?_))) <;> (simp only [sx_ev, sx_evl, gs_ofNat, gs_neg] ; omega))) (by (repeat' (first | exact gs_t0 | (refine gs_t1 ?_ ?_))) <;> (simp only [sx_ev, sx_evl, gs_ofNat, gs_neg] ; omega))⟩
    · have y5 := y2 rfl
      exact ⟨sx_σi [(14, (.ofNat 0, [(10, .ofNat 5)])), (18, (.ofNat 1, [(18, .ofNat 1)]))] σ, gs_fix_of rfl hf0, gs_cnt_of rfl hc0 hn, gs_none rfl, gs_none rfl, gs_none rfl, (fun _ => (gs_some rfl).trans (by (simp only [sx_ev, sx_evl, gs_ofNat, gs_neg] ; omega))), (fun e => nomatch e), gs_lo rfl, tv_a2_t_22_106_f a b c d e f g h hLB (gs_F hq0 hf0 hc0 (by (repeat' (first | exact bk_F0 | (refine bk_F1 ?_ ?_))) <;> (simp only [sx_ev, sx_evl, gs_ofNat, gs_neg] ; omega))) (by (repeat' (first | exact gs_t0 | (refine gs_t1 ?_ ?_))) <;> (simp only [sx_ev, sx_evl, gs_ofNat, gs_neg] ; omega))⟩
    · have y5 := y1 rfl
      exact ⟨sx_σi [(14, (.ofNat 0, [(10, .ofNat 5)])), (18, (.ofNat 1, [(18, .ofNat 1)]))] σ, gs_fix_of rfl hf0, gs_cnt_of rfl hc0 hn, gs_none rfl, gs_none rfl, gs_none rfl, (fun _ => (gs_some rfl).trans (by (simp only [sx_ev, sx_evl, gs_ofNat, gs_neg] ; omega))), (fun e => nomatch e), gs_lo rfl, tv_a2_t_22_106_t a b c d e f g h hLB (gs_F hq0 hf0 hc0 (by (repeat' (first | exact bk_F0 | (refine bk_F1 ?_ ?_))) <;> (simp only [sx_ev, sx_evl, gs_ofNat, gs_neg] ; omega))) (by (repeat' (first | exact gs_t0 | (refine gs_t1 ?_ ?_))) <;> (simp only [sx_ev, sx_evl, gs_ofNat, gs_neg] ; omega))⟩
    · have y5 := y2 rfl
      exact ⟨sx_σi [(14, (.ofNat 0, [(10, .ofNat 5)])), (18, (.ofNat 1, [(18, .ofNat 1)]))] σ, gs_fix_of rfl hf0, gs_cnt_of rfl hc0 hn, gs_none rfl, gs_none rfl, gs_none rfl, (fun _ => (gs_some rfl).trans (by (simp only [sx_ev, sx_evl, gs_ofNat, gs_neg] ; omega))), (fun e => nomatch e), gs_lo rfl, tv_a2_t_23_106_f a b c d e f g h hLB (gs_F hq0 hf0 hc0 (by (repeat' (first | exact bk_F0 | (refine bk_F1 ?_ ?_))) <;> (simp only [sx_ev, sx_evl, gs_ofNat, gs_neg] ; omega))) (by (repeat' (first | exact gs_t0 | (refine gs_t1 ?_ ?_))) <;> (simp only [sx_ev, sx_evl, gs_ofNat, gs_neg] ; omega))⟩
    · have y5 := y1 rfl
      exact ⟨sx_σi [(14, (.ofNat 0, [(10, .ofNat 5)])), (18, (.ofNat 1, [(18, .ofNat 1)]))] σ, gs_fix_of rfl hf0, gs_cnt_of rfl hc0 hn, gs_none rfl, gs_none rfl, gs_none rfl, (fun _ => (gs_some rfl).trans (by (simp only [sx_ev, sx_evl, gs_ofNat, gs_neg] ; omega))), (fun e => nomatch e), gs_lo rfl, tv_a2_t_23_106_t a b c d e f g h hLB (gs_F hq0 hf0 hc0 (by (repeat' (first | exact bk_F0 | (refine bk_F1 ?_ ?_))) <;> (simp only [sx_ev, sx_evl, gs_ofNat, gs_neg] ; omega))) (by (repeat' (first | exact gs_t0 | (refine gs_t1 ?_ ?_))) <;> (simp only [sx_ev, sx_evl, gs_ofNat, gs_neg] ; omega))⟩
    · have y5 := y2 rfl
      exact ⟨sx_σi [(14, (.ofNat 0, [(10, .ofNat 6)])), (18, (.ofNat 1, [(18, .ofNat 1)]))] σ, gs_fix_of rfl hf0, gs_cnt_of rfl hc0 hn, gs_none rfl, gs_none rfl, gs_none rfl, (fun _ => (gs_some rfl).trans (by (simp only [sx_ev, sx_evl, gs_ofNat, gs_neg] ; omega))), (fun e => nomatch e), gs_lo rfl, tv_a2_t_24_106_f a b c d e f g h hLB (gs_F hq0 hf0 hc0 (by (repeat' (first | exact bk_F0 | (refine bk_F1 ?_ ?_))) <;> (simp only [sx_ev, sx_evl, gs_ofNat, gs_neg] ; omega))) (by (repeat' (first | exact gs_t0 | (refine gs_t1 ?_ ?_))) <;> (simp only [sx_ev, sx_evl, gs_ofNat, gs_neg] ; omega))⟩
    · have y5 := y1 rfl
      exact ⟨sx_σi [(14, (.ofNat 0, [(10, .ofNat 6)])), (18, (.ofNat 1, [(18, .ofNat 1)]))] σ, gs_fix_of rfl hf0, gs_cnt_of rfl hc0 hn, gs_none rfl, gs_none rfl, gs_none rfl, (fun _ => (gs_some rfl).trans (by (simp only [sx_ev, sx_evl, gs_ofNat, gs_neg] ; omega))), (fun e => nomatch e), gs_lo rfl, tv_a2_t_24_106_t a b c d e f g h hLB (gs_F hq0 hf0 hc0 (by (repeat' (first | exact bk_F0 | (refine bk_F1 ?_ ?_))) <;> (simp only [sx_ev, sx_evl, gs_ofNat, gs_neg] ; omega))) (by (repeat' (first | exact gs_t0 | (refine gs_t1 ?_ ?_))) <;> (simp only [sx_ev, sx_evl, gs_ofNat, gs_neg] ; omega))⟩
    · have y5 := y2 rfl
      exact ⟨sx_σi [(14, (.ofNat 0, [(10, .ofNat 6)])), (18, (.ofNat 1, [(18, .ofNat 1)]))] σ, gs_fix_of rfl hf0, gs_cnt_of rfl hc0 hn, gs_none rfl, gs_none rfl, gs_none rfl, (fun _ => (gs_some rfl).trans (by (simp only [sx_ev, sx_evl, gs_ofNat, gs_neg] ; omega))), (fun e => nomatch e), gs_lo rfl, tv_a2_t_25_106_f a b c d e f g h hLB (gs_F hq0 hf0 hc0 (by (repeat' (first | exact bk_F0 | (refine bk_F1 ?_ ?_))) <;> (simp only [sx_ev, sx_evl, gs_ofNat, gs_neg] ; omega))) (by (repeat' (first | exact gs_t0 | (refine gs_t1 ?_ ?_))) <;> (simp only [sx_ev, sx_evl, gs_ofNat, gs_neg] ; omega))⟩
    · have y5 := y1 rfl
      exact ⟨sx_σi [(14, (.ofNat 0, [(10, .ofNat 6)])), (18, (.ofNat 1, [(18, .ofNat 1)]))] σ, gs_fix_of rfl hf0, gs_cnt_of rfl hc0 hn, gs_none rfl, gs_none rfl, gs_none rfl, (fun _ => (gs_some rfl).trans (by (simp only [sx_ev, sx_evl, gs_ofNat, gs_neg] ; omega))), (fun e => nomatch e), gs_lo rfl, tv_a2_t_25_106_t a b c d e f g h hLB (gs_F hq0 hf0 hc0 (by (repeat' (first | exact bk_F0 | (refine bk_F1 ?_ ?_))) <;> (simp only [sx_ev, sx_evl, gs_ofNat, gs_neg] ; omega))) (by (repeat' (first | exact gs_t0 | (refine gs_t1 ?_ ?_))) <;> (simp only [sx_ev, sx_evl, gs_ofNat, gs_neg] ; omega))⟩
  · obtain rfl : m = false := by rw [hm, hA]; rfl
    rcases Int.lt_trichotomy (σ 10) y0 with ho | ho | ho <;> cases y
    · rw [if_pos (show σ 10 < y0 by omega)] at hv
      have y5 := y2 rfl
      have hv := Option.some.inj hv
      exact ⟨sx_σi [(18, (.ofNat 1, [(18, .ofNat 1)]))] σ, gs_fix_of rfl hf0, gs_cnt_of rfl hc0 hn, gs_none rfl, gs_none rfl, gs_none rfl, (fun e => nomatch e), (fun _ => hv.symm), gs_lo rfl, tv_a2_lt_0_106_f a b c d e f g h hLB (gs_F hq0 hf0 hc0 (by (repeat' (first | exact bk_F0 | (refine bk_F1 ?_ ?_))) <;> (simp only [sx_ev, sx_evl, gs_ofNat, gs_neg] ; omega))) (by (repeat' (first | exact gs_t0 | (refine gs_t1 ?_ ?_))) <;> (simp only [sx_ev, sx_evl, gs_ofNat, gs_neg] ; omega))⟩
    · rw [if_pos (show σ 10 < y0 by omega)] at hv
      have y5 := y1 rfl
      have hv := Option.some.inj hv
      exact ⟨sx_σi [(18, (.ofNat 1, [(18, .ofNat 1)]))] σ, gs_fix_of rfl hf0, gs_cnt_of rfl hc0 hn, gs_none rfl, gs_none rfl, gs_none rfl, (fun e => nomatch e), (fun _ => hv.symm), gs_lo rfl, tv_a2_lt_0_106_t a b c d e f g h hLB (gs_F hq0 hf0 hc0 (by (repeat' (first | exact bk_F0 | (refine bk_F1 ?_ ?_))) <;> (simp only [sx_ev, sx_evl, gs_ofNat, gs_neg] ; omega))) (by (repeat' (first | exact gs_t0 | (refine gs_t1 ?_ ?_))) <;> (simp only [sx_ev, sx_evl, gs_ofNat, gs_neg] ; omega))⟩
    · rw [if_neg (show ¬ (σ 10 < y0) by omega)] at hv
      cases hv
    · rw [if_neg (show ¬ (σ 10 < y0) by omega)] at hv
      cases hv
    · rw [if_neg (show ¬ (σ 10 < y0) by omega)] at hv
      cases hv
    · rw [if_neg (show ¬ (σ 10 < y0) by omega)] at hv
      cases hv
  · obtain rfl : m = false := by rw [hm, hA]; rfl
    rcases Int.lt_trichotomy (σ 10) y0 with ho | ho | ho <;> cases y
    · rw [if_neg (show ¬ (σ 10 ≥ y0) by omega)] at hv
      cases hv
    · rw [if_neg (show ¬ (σ 10 ≥ y0) by omega)] at hv
      cases hv
    · rw [if_pos (show σ 10 ≥ y0 by omega)] at hv
      have y5 := y2 rfl
      have hv := Option.some.inj hv
      exact ⟨sx_σi [(18, (.ofNat 1, [(18, .ofNat 1)]))] σ, gs_fix_of rfl hf0, gs_cnt_of rfl hc0 hn, gs_none rfl, gs_none rfl, gs_none rfl, (fun e => nomatch e), (fun _ => hv.symm), gs_lo rfl, tv_a2_ge_1_106_f a b c d e f g h hLB (gs_F hq0 hf0 hc0 (by (repeat' (first | exact bk_F0 | (refine bk_F1 ?_ ?_))) <;> (simp only [sx_ev, sx_evl, gs_ofNat, gs_neg] ; omega))) (by (repeat' (first | exact gs_t0 | (refine gs_t1 ?_ ?_))) <;> (simp only [sx_ev, sx_evl, gs_ofNat, gs_neg] ; omega))⟩
    · rw [if_pos (show σ 10 ≥ y0 by omega)] at hv
      have y5 := y1 rfl
      have hv := Option.some.inj hv
      exact ⟨sx_σi [(18, (.ofNat 1, [(18, .ofNat 1)]))] σ, gs_fix_of rfl hf0, gs_cnt_of rfl hc0 hn, gs_none rfl, gs_none rfl, gs_none rfl, (fun e => nomatch e), (fun _ => hv.symm), gs_lo rfl, tv_a2_ge_1_106_t a b c d e f g h hLB (gs_F hq0 hf0 hc0 (by (repeat' (first | exact bk_F0 | (refine bk_F1 ?_ ?_))) <;> (simp only [sx_ev, sx_evl, gs_ofNat, gs_neg] ; omega))) (by (repeat' (first | exact gs_t0 | (refine gs_t1 ?_ ?_))) <;> (simp only [sx_ev, sx_evl, gs_ofNat, gs_neg] ; omega))⟩
    · rw [if_pos (show σ 10 ≥ y0 by omega)] at hv
      have y5 := y2 rfl
      have hv := Option.some.inj hv
      exact ⟨sx_σi [(18, (.ofNat 1, [(18, .ofNat 1)]))] σ, gs_fix_of rfl hf0, gs_cnt_of rfl hc0 hn, gs_none rfl, gs_none rfl, gs_none rfl, (fun e => nomatch e), (fun _ => hv.symm), gs_lo rfl, tv_a2_ge_2_106_f a b c d e f g h hLB (gs_F hq0 hf0 hc0 (by (repeat' (first | exact bk_F0 | (refine bk_F1 ?_ ?_))) <;> (simp only [sx_ev, sx_evl, gs_ofNat, gs_neg] ; omega))) (by (repeat' (first | exact gs_t0 | (refine gs_t1 ?_ ?_))) <;> (simp only [sx_ev, sx_evl, gs_ofNat, gs_neg] ; omega))⟩
    · rw [if_pos (show σ 10 ≥ y0 by omega)] at hv
      have y5 := y1 rfl
      have hv := Option.some.inj hv
      exact ⟨sx_σi [(18, (.ofNat 1, [(18, .ofNat 1)]))] σ, gs_fix_of rfl hf0, gs_cnt_of rfl hc0 hn, gs_none rfl, gs_none rfl, gs_none rfl, (fun e => nomatch e), (fun _ => hv.symm), gs_lo rfl, tv_a2_ge_2_106_t a b c d e f g h hLB (gs_F hq0 hf0 hc0 (by (repeat' (first | exact bk_F0 | (refine bk_F1 ?_ ?_))) <;> (simp only [sx_ev, sx_evl, gs_ofNat, gs_neg] ; omega))) (by (repeat' (first | exact gs_t0 | (refine gs_t1 ?_ ?_))) <;> (simp only [sx_ev, sx_evl, gs_ofNat, gs_neg] ; omega))⟩
  · obtain rfl : m = false := by rw [hm, hA]; rfl
    rcases Int.lt_trichotomy (σ 10) y0 with ho | ho | ho <;> cases y
    · rw [if_pos (show σ 10 ≠ y0 by omega)] at hv
      have y5 := y2 rfl
      have hv := Option.some.inj hv
      exact ⟨sx_σi [(18, (.ofNat 1, [(18, .ofNat 1)]))] σ, gs_fix_of rfl hf0, gs_cnt_of rfl hc0 hn, gs_none rfl, gs_none rfl, gs_none rfl, (fun e => nomatch e), (fun _ => hv.symm), gs_lo rfl, tv_a2_ne_0_106_f a b c d e f g h hLB (gs_F hq0 hf0 hc0 (by (repeat' (first | exact bk_F0 | (refine bk_F1 ?_ ?_))) <;> (simp only [sx_ev, sx_evl, gs_ofNat, gs_neg] ; omega))) (by (repeat' (first | exact gs_t0 | (refine gs_t1 ?_ ?_))) <;> (simp only [sx_ev, sx_evl, gs_ofNat, gs_neg] ; omega))⟩
    · rw [if_pos (show σ 10 ≠ y0 by omega)] at hv
      have y5 := y1 rfl
      have hv := Option.some.inj hv
      exact ⟨sx_σi [(18, (.ofNat 1, [(18, .ofNat 1)]))] σ, gs_fix_of rfl hf0, gs_cnt_of rfl hc0 hn, gs_none rfl, gs_none rfl, gs_none rfl, (fun e => nomatch e), (fun _ => hv.symm), gs_lo rfl, tv_a2_ne_0_106_t a b c d e f g h hLB (gs_F hq0 hf0 hc0 (by (repeat' (first | exact bk_F0 | (refine bk_F1 ?_ ?_))) <;> (simp only [sx_ev, sx_evl, gs_ofNat, gs_neg] ; omega))) (by (repeat' (first | exact gs_t0 | (refine gs_t1 ?_ ?_))) <;> (simp only [sx_ev, sx_evl, gs_ofNat, gs_neg] ; omega))⟩
    · rw [if_neg (show ¬ (σ 10 ≠ y0) by omega)] at hv
      cases hv
    · rw [if_neg (show ¬ (σ 10 ≠ y0) by omega)] at hv
      cases hv
    · rw [if_pos (show σ 10 ≠ y0 by omega)] at hv
      have y5 := y2 rfl
      have hv := Option.some.inj hv
      exact ⟨sx_σi [(18, (.ofNat 1, [(18, .ofNat 1)]))] σ, gs_fix_of rfl hf0, gs_cnt_of rfl hc0 hn, gs_none rfl, gs_none rfl, gs_none rfl, (fun e => nomatch e), (fun _ => hv.symm), gs_lo rfl, tv_a2_ne_2_106_f a b c d e f g h hLB (gs_F hq0 hf0 hc0 (by (repeat' (first | exact bk_F0 | (refine bk_F1 ?_ ?_))) <;> (simp only [sx_ev, sx_evl, gs_ofNat, gs_neg] ; omega))) (by (repeat' (first | exact gs_t0 | (refine gs_t1 ?_ ?_))) <;> (simp only [sx_ev, sx_evl, gs_ofNat, gs_neg] ; omega))⟩
    · rw [if_pos (show σ 10 ≠ y0 by omega)] at hv
      have y5 := y1 rfl
      have hv := Option.some.inj hv
      exact ⟨sx_σi [(18, (.ofNat 1, [(18, .ofNat 1)]))] σ, gs_fix_of rfl hf0, gs_cnt_of rfl hc0 hn, gs_none rfl, gs_none rfl, gs_none rfl, (fun e => nomatch e), (fun _ => hv.symm), gs_lo rfl, tv_a2_ne_2_106_t a b c d e f g h hLB (gs_F hq0 hf0 hc0 (by (repeat' (first | exact bk_F0 | (refine bk_F1 ?_ ?_))) <;> (simp only [sx_ev, sx_evl, gs_ofNat, gs_neg] ; omega))) (by (repeat' (first | exact gs_t0 | (refine gs_t1 ?_ ?_))) <;> (simp only [sx_ev, sx_evl, gs_ofNat, gs_neg] ; omega))⟩
theorem gs_a2x {q : gs_P} {a b c d e f g h : Bool} {LB : List (Nat × sx_C)} {z : Nat → Nat} {σ : Nat → Int} {n : Int} (hLB : bk_lb LB = true) (hq : gs_ok q) (hb : gs_bits q a b c d e f g h) (hf : gs_fix q σ) (hc : gs_cnt n σ) {y : Bool} {y0 : Int} (hx : -6 ≤ σ 10 ∧ σ 10 ≤ 6) (hy : (y = true → σ 13 = y0) ∧ (y = false → y0 = q.d)) (hy1 : -6 ≤ y0 ∧ y0 ≤ 6) (hv : gs_act q.A (σ 10) y0 = none) (hn : n + 1 ≤ 3800) : ∃ σ' : Nat → Int, gs_fix q σ' ∧ gs_cnt (n + 1) σ' ∧ σ' 16 = σ 16 ∧ σ' 10 = σ 10 ∧ σ' 13 = σ 13 ∧ gx_G 40 sm_X8_go 14 560 9 135 z σ (bk_pt 4 xL [] (gp_PA a b c d e f g h y LB) 300) σ' (bk_pt 4 xL [] (gp_QY a b c d e f g h y LB) 300) := by
  have hf0 := hf
  have hc0 := hc
  have hq0 := hq
  obtain ⟨f1, f2, f3, f4, f5, f6, f7, f8, f9, f10, f11⟩ := hf
  obtain ⟨⟨q1, q2, q3, q4, q5, q6, q7, q8, q9, q10, q11, q12⟩, ⟨q13, q14, q15⟩, ⟨q16, q17, q18⟩, ⟨q19, q20⟩, q21, q22⟩ := hq
  obtain ⟨b1, b2, b3, b4, b5, b6, b7, b8⟩ := hb
  obtain ⟨y1, y2⟩ := hy
  obtain ⟨y3, y4⟩ := hy1
  obtain ⟨x1, x2⟩ := hx
  have hA : q.A = 0 ∨ q.A = 1 ∨ q.A = 2 ∨ q.A = 3 ∨ q.A = 4 ∨ q.A = 5 := by omega
  rcases hA with hA | hA | hA | hA | hA | hA <;> rw [hA] at f10 hv <;> simp only [gs_op] at f10 <;> simp only [gs_act] at hv
  · cases hv
  · cases hv
  · cases hv
  · rcases Int.lt_trichotomy (σ 10) y0 with ho | ho | ho <;> cases y
    · rw [if_pos (show σ 10 < y0 by omega)] at hv
      cases hv
    · rw [if_pos (show σ 10 < y0 by omega)] at hv
      cases hv
    · rw [if_neg (show ¬ (σ 10 < y0) by omega)] at hv
      have y5 := y2 rfl
      exact ⟨sx_σi [(18, (.ofNat 1, [(18, .ofNat 1)]))] σ, gs_fix_of rfl hf0, gs_cnt_of rfl hc0 hn, gs_none rfl, gs_none rfl, gs_none rfl, gs_lo rfl, tv_a2_lt_1_106_f a b c d e f g h hLB (gs_F hq0 hf0 hc0 (by (repeat' (first | exact bk_F0 | (refine bk_F1 ?_ ?_))) <;> (simp only [sx_ev, sx_evl, gs_ofNat, gs_neg] ; omega))) (by (repeat' (first | exact gs_t0 | (refine gs_t1 ?_ ?_))) <;> (simp only [sx_ev, sx_evl, gs_ofNat, gs_neg] ; omega))⟩
    · rw [if_neg (show ¬ (σ 10 < y0) by omega)] at hv
      have y5 := y1 rfl
      exact ⟨sx_σi [(18, (.ofNat 1, [(18, .ofNat 1)]))] σ, gs_fix_of rfl hf0, gs_cnt_of rfl hc0 hn, gs_none rfl, gs_none rfl, gs_none rfl, gs_lo rfl, tv_a2_lt_1_106_t a b c d e f g h hLB (gs_F hq0 hf0 hc0 (by (repeat' (first | exact bk_F0 | (refine bk_F1 ?_ ?_))) <;> (simp only [sx_ev, sx_evl, gs_ofNat, gs_neg] ; omega))) (by (repeat' (first | exact gs_t0 | (refine gs_t1 ?_ ?_))) <;> (simp only [sx_ev, sx_evl, gs_ofNat, gs_neg] ; omega))⟩
    · rw [if_neg (show ¬ (σ 10 < y0) by omega)] at hv
      have y5 := y2 rfl
      exact ⟨sx_σi [(18, (.ofNat 1, [(18, .ofNat 1)]))] σ, gs_fix_of rfl hf0, gs_cnt_of rfl hc0 hn, gs_none rfl, gs_none rfl, gs_none rfl, gs_lo rfl, tv_a2_lt_2_106_f a b c d e f g h hLB (gs_F hq0 hf0 hc0 (by (repeat' (first | exact bk_F0 | (refine bk_F1 ?_ ?_))) <;> (simp only [sx_ev, sx_evl, gs_ofNat, gs_neg] ; omega))) (by (repeat' (first | exact gs_t0 | (refine gs_t1 ?_ ?_))) <;> (simp only [sx_ev, sx_evl, gs_ofNat, gs_neg] ; omega))⟩
    · rw [if_neg (show ¬ (σ 10 < y0) by omega)] at hv
      have y5 := y1 rfl
      exact ⟨sx_σi [(18, (.ofNat 1, [(18, .ofNat 1)]))] σ, gs_fix_of rfl hf0, gs_cnt_of rfl hc0 hn, gs_none rfl, gs_none rfl, gs_none rfl, gs_lo rfl, tv_a2_lt_2_106_t a b c d e f g h hLB (gs_F hq0 hf0 hc0 (by (repeat' (first | exact bk_F0 | (refine bk_F1 ?_ ?_))) <;> (simp only [sx_ev, sx_evl, gs_ofNat, gs_neg] ; omega))) (by (repeat' (first | exact gs_t0 | (refine gs_t1 ?_ ?_))) <;> (simp only [sx_ev, sx_evl, gs_ofNat, gs_neg] ; omega))⟩
  · rcases Int.lt_trichotomy (σ 10) y0 with ho | ho | ho <;> cases y
    · rw [if_neg (show ¬ (σ 10 ≥ y0) by omega)] at hv
      have y5 := y2 rfl
      exact ⟨sx_σi [(18, (.ofNat 1, [(18, .ofNat 1)]))] σ, gs_fix_of rfl hf0, gs_cnt_of rfl hc0 hn, gs_none rfl, gs_none rfl, gs_none rfl, gs_lo rfl, tv_a2_ge_0_106_f a b c d e f g h hLB (gs_F hq0 hf0 hc0 (by (repeat' (first | exact bk_F0 | (refine bk_F1 ?_ ?_))) <;> (simp only [sx_ev, sx_evl, gs_ofNat, gs_neg] ; omega))) (by (repeat' (first | exact gs_t0 | (refine gs_t1 ?_ ?_))) <;> (simp only [sx_ev, sx_evl, gs_ofNat, gs_neg] ; omega))⟩
    · rw [if_neg (show ¬ (σ 10 ≥ y0) by omega)] at hv
      have y5 := y1 rfl
      exact ⟨sx_σi [(18, (.ofNat 1, [(18, .ofNat 1)]))] σ, gs_fix_of rfl hf0, gs_cnt_of rfl hc0 hn, gs_none rfl, gs_none rfl, gs_none rfl, gs_lo rfl, tv_a2_ge_0_106_t a b c d e f g h hLB (gs_F hq0 hf0 hc0 (by (repeat' (first | exact bk_F0 | (refine bk_F1 ?_ ?_))) <;> (simp only [sx_ev, sx_evl, gs_ofNat, gs_neg] ; omega))) (by (repeat' (first | exact gs_t0 | (refine gs_t1 ?_ ?_))) <;> (simp only [sx_ev, sx_evl, gs_ofNat, gs_neg] ; omega))⟩
    · rw [if_pos (show σ 10 ≥ y0 by omega)] at hv
      cases hv
    · rw [if_pos (show σ 10 ≥ y0 by omega)] at hv
      cases hv
    · rw [if_pos (show σ 10 ≥ y0 by omega)] at hv
      cases hv
    · rw [if_pos (show σ 10 ≥ y0 by omega)] at hv
      cases hv
  · rcases Int.lt_trichotomy (σ 10) y0 with ho | ho | ho <;> cases y
    · rw [if_pos (show σ 10 ≠ y0 by omega)] at hv
      cases hv
    · rw [if_pos (show σ 10 ≠ y0 by omega)] at hv
      cases hv
    · rw [if_neg (show ¬ (σ 10 ≠ y0) by omega)] at hv
      have y5 := y2 rfl
      exact ⟨sx_σi [(18, (.ofNat 1, [(18, .ofNat 1)]))] σ, gs_fix_of rfl hf0, gs_cnt_of rfl hc0 hn, gs_none rfl, gs_none rfl, gs_none rfl, gs_lo rfl, tv_a2_ne_1_106_f a b c d e f g h hLB (gs_F hq0 hf0 hc0 (by (repeat' (first | exact bk_F0 | (refine bk_F1 ?_ ?_))) <;> (simp only [sx_ev, sx_evl, gs_ofNat, gs_neg] ; omega))) (by (repeat' (first | exact gs_t0 | (refine gs_t1 ?_ ?_))) <;> (simp only [sx_ev, sx_evl, gs_ofNat, gs_neg] ; omega))⟩
    · rw [if_neg (show ¬ (σ 10 ≠ y0) by omega)] at hv
      have y5 := y1 rfl
      exact ⟨sx_σi [(18, (.ofNat 1, [(18, .ofNat 1)]))] σ, gs_fix_of rfl hf0, gs_cnt_of rfl hc0 hn, gs_none rfl, gs_none rfl, gs_none rfl, gs_lo rfl, tv_a2_ne_1_106_t a b c d e f g h hLB (gs_F hq0 hf0 hc0 (by (repeat' (first | exact bk_F0 | (refine bk_F1 ?_ ?_))) <;> (simp only [sx_ev, sx_evl, gs_ofNat, gs_neg] ; omega))) (by (repeat' (first | exact gs_t0 | (refine gs_t1 ?_ ?_))) <;> (simp only [sx_ev, sx_evl, gs_ofNat, gs_neg] ; omega))⟩
    · rw [if_pos (show σ 10 ≠ y0 by omega)] at hv
      cases hv
    · rw [if_pos (show σ 10 ≠ y0 by omega)] at hv
      cases hv
theorem gs_g1 {q : gs_P} {a b c d e f g h : Bool} {LB : List (Nat × sx_C)} {z : Nat → Nat} {σ : Nat → Int} {n : Int} (hLB : bk_lb LB = true) (hq : gs_ok q) (hb : gs_bits q a b c d e f g h) (hf : gs_fix q σ) (hc : gs_cnt n σ) {y v : Bool} (hn : n + 1 ≤ 3800) : ∃ σ' : Nat → Int, gs_fix q σ' ∧ gs_cnt (n + 1) σ' ∧ σ' 16 = σ 16 ∧ σ' 10 = σ 10 ∧ σ' 13 = σ 13 ∧ σ' 14 = σ 14 ∧ gx_G 40 sm_X8_go 14 560 9 135 z σ (bk_pt 4 xL [] (gp_QG a b c d e f g h y v LB) 300) σ' (bk_pt 4 xL [] (gp_G0 a b c d e f g h y v LB) 300) := by
  have hf0 := hf
  have hc0 := hc
  have hq0 := hq
  obtain ⟨f1, f2, f3, f4, f5, f6, f7, f8, f9, f10, f11⟩ := hf
  obtain ⟨⟨q1, q2, q3, q4, q5, q6, q7, q8, q9, q10, q11, q12⟩, ⟨q13, q14, q15⟩, ⟨q16, q17, q18⟩, ⟨q19, q20⟩, q21, q22⟩ := hq
  obtain ⟨b1, b2, b3, b4, b5, b6, b7, b8⟩ := hb
  cases v <;> cases y
  · cases d
    · exact ⟨sx_σi [(18, (.ofNat 1, [(18, .ofNat 1)]))] σ, gs_fix_of rfl hf0, gs_cnt_of rfl hc0 hn, gs_none rfl, gs_none rfl, gs_none rfl, gs_none rfl, gs_lo rfl, tv_g1_106_f a b c e f g h hLB (gs_F hq0 hf0 hc0 (by (repeat' (first | exact bk_F0 | (refine bk_F1 ?_ ?_))) <;> (simp only [sx_ev, sx_evl, gs_ofNat, gs_neg] ; omega))) (by (repeat' (first | exact gs_t0 | (refine gs_t1 ?_ ?_))) <;> (simp only [sx_ev, sx_evl, gs_ofNat, gs_neg] ; omega))⟩
    · exact ⟨sx_σi [(18, (.ofNat 1, [(18, .ofNat 1)]))] σ, gs_fix_of rfl hf0, gs_cnt_of rfl hc0 hn, gs_none rfl, gs_none rfl, gs_none rfl, gs_none rfl, gs_lo rfl, tv_g1_231_f a b c e f g h hLB (gs_F hq0 hf0 hc0 (by (repeat' (first | exact bk_F0 | (refine bk_F1 ?_ ?_))) <;> (simp only [sx_ev, sx_evl, gs_ofNat, gs_neg] ; omega))) (by (repeat' (first | exact gs_t0 | (refine gs_t1 ?_ ?_))) <;> (simp only [sx_ev, sx_evl, gs_ofNat, gs_neg] ; omega))⟩
  · exact ⟨sx_σi [(18, (.ofNat 1, [(18, .ofNat 1)]))] σ, gs_fix_of rfl hf0, gs_cnt_of rfl hc0 hn, gs_none rfl, gs_none rfl, gs_none rfl, gs_none rfl, gs_lo rfl, tv_g1_239_t a b c d e f g h hLB (gs_F hq0 hf0 hc0 (by (repeat' (first | exact bk_F0 | (refine bk_F1 ?_ ?_))) <;> (simp only [sx_ev, sx_evl, gs_ofNat, gs_neg] ; omega))) (by (repeat' (first | exact gs_t0 | (refine gs_t1 ?_ ?_))) <;> (simp only [sx_ev, sx_evl, gs_ofNat, gs_neg] ; omega))⟩
  · exact ⟨sx_σi [(18, (.ofNat 1, [(18, .ofNat 1)]))] σ, gs_fix_of rfl hf0, gs_cnt_of rfl hc0 hn, gs_none rfl, gs_none rfl, gs_none rfl, gs_none rfl, gs_lo rfl, tv_g1_240_f a b c d e f g h hLB (gs_F hq0 hf0 hc0 (by (repeat' (first | exact bk_F0 | (refine bk_F1 ?_ ?_))) <;> (simp only [sx_ev, sx_evl, gs_ofNat, gs_neg] ; omega))) (by (repeat' (first | exact gs_t0 | (refine gs_t1 ?_ ?_))) <;> (simp only [sx_ev, sx_evl, gs_ofNat, gs_neg] ; omega))⟩
  · exact ⟨sx_σi [(18, (.ofNat 1, [(18, .ofNat 1)]))] σ, gs_fix_of rfl hf0, gs_cnt_of rfl hc0 hn, gs_none rfl, gs_none rfl, gs_none rfl, gs_none rfl, gs_lo rfl, tv_g1_240_t a b c d e f g h hLB (gs_F hq0 hf0 hc0 (by (repeat' (first | exact bk_F0 | (refine bk_F1 ?_ ?_))) <;> (simp only [sx_ev, sx_evl, gs_ofNat, gs_neg] ; omega))) (by (repeat' (first | exact gs_t0 | (refine gs_t1 ?_ ?_))) <;> (simp only [sx_ev, sx_evl, gs_ofNat, gs_neg] ; omega))⟩
theorem gs_gb {q : gs_P} {a b c d e f g h : Bool} {LB : List (Nat × sx_C)} {z : Nat → Nat} {σ : Nat → Int} {n : Int} (hLB : bk_lb LB = true) (hq : gs_ok q) (hb : gs_bits q a b c d e f g h) (hf : gs_fix q σ) (hc : gs_cnt n σ) {y v : Bool} (hn : n + 3 ≤ 3800) : ∃ σ' : Nat → Int, gs_fix q σ' ∧ gs_cnt (n + 3) σ' ∧ σ' 16 = σ 16 ∧ σ' 10 = σ 10 ∧ σ' 13 = σ 13 ∧ σ' 14 = σ 14 ∧ gx_G 40 sm_X8_go 14 560 9 135 z σ (bk_pt 4 xL [] (gp_G0 a b c d e f g h y v LB) 300) σ' (bk_pt 4 xL [] (gp_GV a b c d e f g h y v false LB) 300) := by
  have hf0 := hf
  have hc0 := hc
  have hq0 := hq
  obtain ⟨f1, f2, f3, f4, f5, f6, f7, f8, f9, f10, f11⟩ := hf
  obtain ⟨⟨q1, q2, q3, q4, q5, q6, q7, q8, q9, q10, q11, q12⟩, ⟨q13, q14, q15⟩, ⟨q16, q17, q18⟩, ⟨q19, q20⟩, q21, q22⟩ := hq
  obtain ⟨b1, b2, b3, b4, b5, b6, b7, b8⟩ := hb
  cases g <;> cases y <;> cases v <;> simp only [gs_s] at b7
  · exact ⟨sx_σi [(17, (.negSucc 1, [(17, .ofNat 1)])), (18, (.ofNat 3, [(18, .ofNat 1)])), (19, (.ofNat 2, [(19, .ofNat 1)])), (20, (.ofNat 2, [(20, .ofNat 1)]))] σ, gs_fix_of rfl hf0, gs_cnt_of rfl hc0 hn, gs_none rfl, gs_none rfl, gs_none rfl, gs_none rfl, gs_lo rfl, tv_gb_0_ff a b c d e f h hLB (gs_F hq0 hf0 hc0 (by (repeat' (first | exact bk_F0 | (refine bk_F1 ?_ ?_))) <;> (simp only [sx_ev, sx_evl, gs_ofNat, gs_neg] ; omega))) (by (repeat' (first | exact gs_t0 | (refine gs_t1 ?_ ?_))) <;> (simp only [sx_ev, sx_evl, gs_ofNat, gs_neg] ; omega))⟩
  · exact ⟨sx_σi [(17, (.negSucc 1, [(17, .ofNat 1)])), (18, (.ofNat 3, [(18, .ofNat 1)])), (19, (.ofNat 2, [(19, .ofNat 1)])), (20, (.ofNat 2, [(20, .ofNat 1)]))] σ, gs_fix_of rfl hf0, gs_cnt_of rfl hc0 hn, gs_none rfl, gs_none rfl, gs_none rfl, gs_none rfl, gs_lo rfl, tv_gb_0_ft a b c d e f h hLB (gs_F hq0 hf0 hc0 (by (repeat' (first | exact bk_F0 | (refine bk_F1 ?_ ?_))) <;> (simp only [sx_ev, sx_evl, gs_ofNat, gs_neg] ; omega))) (by (repeat' (first | exact gs_t0 | (refine gs_t1 ?_ ?_))) <;> (simp only [sx_ev, sx_evl, gs_ofNat, gs_neg] ; omega))⟩
  · exact ⟨sx_σi [(17, (.negSucc 1, [(17, .ofNat 1)])), (18, (.ofNat 3, [(18, .ofNat 1)])), (19, (.ofNat 2, [(19, .ofNat 1)])), (20, (.ofNat 2, [(20, .ofNat 1)]))] σ, gs_fix_of rfl hf0, gs_cnt_of rfl hc0 hn, gs_none rfl, gs_none rfl, gs_none rfl, gs_none rfl, gs_lo rfl, tv_gb_0_tf a b c d e f h hLB (gs_F hq0 hf0 hc0 (by (repeat' (first | exact bk_F0 | (refine bk_F1 ?_ ?_))) <;> (simp only [sx_ev, sx_evl, gs_ofNat, gs_neg] ; omega))) (by (repeat' (first | exact gs_t0 | (refine gs_t1 ?_ ?_))) <;> (simp only [sx_ev, sx_evl, gs_ofNat, gs_neg] ; omega))⟩
  · exact ⟨sx_σi [(17, (.negSucc 1, [(17, .ofNat 1)])), (18, (.ofNat 3, [(18, .ofNat 1)])), (19, (.ofNat 2, [(19, .ofNat 1)])), (20, (.ofNat 2, [(20, .ofNat 1)]))] σ, gs_fix_of rfl hf0, gs_cnt_of rfl hc0 hn, gs_none rfl, gs_none rfl, gs_none rfl, gs_none rfl, gs_lo rfl, tv_gb_0_tt a b c d e f h hLB (gs_F hq0 hf0 hc0 (by (repeat' (first | exact bk_F0 | (refine bk_F1 ?_ ?_))) <;> (simp only [sx_ev, sx_evl, gs_ofNat, gs_neg] ; omega))) (by (repeat' (first | exact gs_t0 | (refine gs_t1 ?_ ?_))) <;> (simp only [sx_ev, sx_evl, gs_ofNat, gs_neg] ; omega))⟩
  · exact ⟨sx_σi [(17, (.negSucc 2, [(17, .ofNat 1)])), (18, (.ofNat 7, [(18, .ofNat 1)])), (19, (.ofNat 3, [(19, .ofNat 1)])), (20, (.ofNat 3, [(20, .ofNat 1)]))] σ, gs_fix_of rfl hf0, gs_cnt_of rfl hc0 hn, gs_none rfl, gs_none rfl, gs_none rfl, gs_none rfl, gs_lo rfl, tv_gb_1_ff a b c d e f h hLB (gs_F hq0 hf0 hc0 (by (repeat' (first | exact bk_F0 | (refine bk_F1 ?_ ?_))) <;> (simp only [sx_ev, sx_evl, gs_ofNat, gs_neg] ; omega))) (by (repeat' (first | exact gs_t0 | (refine gs_t1 ?_ ?_))) <;> (simp only [sx_ev, sx_evl, gs_ofNat, gs_neg] ; omega))⟩
  · exact ⟨sx_σi [(17, (.negSucc 2, [(17, .ofNat 1)])), (18, (.ofNat 7, [(18, .ofNat 1)])), (19, (.ofNat 3, [(19, .ofNat 1)])), (20, (.ofNat 3, [(20, .ofNat 1)]))] σ, gs_fix_of rfl hf0, gs_cnt_of rfl hc0 hn, gs_none rfl, gs_none rfl, gs_none rfl, gs_none rfl, gs_lo rfl, tv_gb_1_ft a b c d e f h hLB (gs_F hq0 hf0 hc0 (by (repeat' (first | exact bk_F0 | (refine bk_F1 ?_ ?_))) <;> (simp only [sx_ev, sx_evl, gs_ofNat, gs_neg] ; omega))) (by (repeat' (first | exact gs_t0 | (refine gs_t1 ?_ ?_))) <;> (simp only [sx_ev, sx_evl, gs_ofNat, gs_neg] ; omega))⟩
  · exact ⟨sx_σi [(17, (.negSucc 2, [(17, .ofNat 1)])), (18, (.ofNat 7, [(18, .ofNat 1)])), (19, (.ofNat 3, [(19, .ofNat 1)])), (20, (.ofNat 3, [(20, .ofNat 1)]))] σ, gs_fix_of rfl hf0, gs_cnt_of rfl hc0 hn, gs_none rfl, gs_none rfl, gs_none rfl, gs_none rfl, gs_lo rfl, tv_gb_1_tf a b c d e f h hLB (gs_F hq0 hf0 hc0 (by (repeat' (first | exact bk_F0 | (refine bk_F1 ?_ ?_))) <;> (simp only [sx_ev, sx_evl, gs_ofNat, gs_neg] ; omega))) (by (repeat' (first | exact gs_t0 | (refine gs_t1 ?_ ?_))) <;> (simp only [sx_ev, sx_evl, gs_ofNat, gs_neg] ; omega))⟩
  · exact ⟨sx_σi [(17, (.negSucc 2, [(17, .ofNat 1)])), (18, (.ofNat 7, [(18, .ofNat 1)])), (19, (.ofNat 3, [(19, .ofNat 1)])), (20, (.ofNat 3, [(20, .ofNat 1)]))] σ, gs_fix_of rfl hf0, gs_cnt_of rfl hc0 hn, gs_none rfl, gs_none rfl, gs_none rfl, gs_none rfl, gs_lo rfl, tv_gb_1_tt a b c d e f h hLB (gs_F hq0 hf0 hc0 (by (repeat' (first | exact bk_F0 | (refine bk_F1 ?_ ?_))) <;> (simp only [sx_ev, sx_evl, gs_ofNat, gs_neg] ; omega))) (by (repeat' (first | exact gs_t0 | (refine gs_t1 ?_ ?_))) <;> (simp only [sx_ev, sx_evl, gs_ofNat, gs_neg] ; omega))⟩
theorem gs_gv {q : gs_P} {a b c d e f g h : Bool} {LB : List (Nat × sx_C)} {z : Nat → Nat} {σ : Nat → Int} {n : Int} (hLB : bk_lb LB = true) (hq : gs_ok q) (hb : gs_bits q a b c d e f g h) (hf : gs_fix q σ) (hc : gs_cnt n σ) {y v j : Bool} (hn : n + 1 ≤ 3800) : ∃ σ' : Nat → Int, gs_fix q σ' ∧ gs_cnt (n + 1) σ' ∧ σ' 16 = σ 16 ∧ σ' 10 = σ 10 ∧ σ' 13 = σ 13 ∧ σ' 14 = σ 14 ∧ gx_G 40 sm_X8_go 14 560 9 135 z σ (bk_pt 4 xL [] (gp_GV a b c d e f g h y v j LB) 300) σ' (bk_pt 4 xL [] (gp_PB a b c d e f g h y v j LB) 300) := by
  have hf0 := hf
  have hc0 := hc
  have hq0 := hq
  obtain ⟨f1, f2, f3, f4, f5, f6, f7, f8, f9, f10, f11⟩ := hf
  obtain ⟨⟨q1, q2, q3, q4, q5, q6, q7, q8, q9, q10, q11, q12⟩, ⟨q13, q14, q15⟩, ⟨q16, q17, q18⟩, ⟨q19, q20⟩, q21, q22⟩ := hq
  obtain ⟨b1, b2, b3, b4, b5, b6, b7, b8⟩ := hb
  cases y <;> cases v <;> cases j
  · exact ⟨sx_σi [(18, (.ofNat 2, [(18, .ofNat 1)]))] σ, gs_fix_of rfl hf0, gs_cnt_of rfl hc0 hn, gs_none rfl, gs_none rfl, gs_none rfl, gs_none rfl, gs_lo rfl, tv_gv_fff a b c d e f g h hLB (gs_F hq0 hf0 hc0 (by (repeat' (first | exact bk_F0 | (refine bk_F1 ?_ ?_))) <;> (simp only [sx_ev, sx_evl, gs_ofNat, gs_neg] ; omega))) (by (repeat' (first | exact gs_t0 | (refine gs_t1 ?_ ?_))) <;> (simp only [sx_ev, sx_evl, gs_ofNat, gs_neg] ; omega))⟩
  · exact ⟨sx_σi [(18, (.ofNat 2, [(18, .ofNat 1)]))] σ, gs_fix_of rfl hf0, gs_cnt_of rfl hc0 hn, gs_none rfl, gs_none rfl, gs_none rfl, gs_none rfl, gs_lo rfl, tv_gv_fft a b c d e f g h hLB (gs_F hq0 hf0 hc0 (by (repeat' (first | exact bk_F0 | (refine bk_F1 ?_ ?_))) <;> (simp only [sx_ev, sx_evl, gs_ofNat, gs_neg] ; omega))) (by (repeat' (first | exact gs_t0 | (refine gs_t1 ?_ ?_))) <;> (simp only [sx_ev, sx_evl, gs_ofNat, gs_neg] ; omega))⟩
  · exact ⟨sx_σi [(18, (.ofNat 2, [(18, .ofNat 1)]))] σ, gs_fix_of rfl hf0, gs_cnt_of rfl hc0 hn, gs_none rfl, gs_none rfl, gs_none rfl, gs_none rfl, gs_lo rfl, tv_gv_ftf a b c d e f g h hLB (gs_F hq0 hf0 hc0 (by (repeat' (first | exact bk_F0 | (refine bk_F1 ?_ ?_))) <;> (simp only [sx_ev, sx_evl, gs_ofNat, gs_neg] ; omega))) (by (repeat' (first | exact gs_t0 | (refine gs_t1 ?_ ?_))) <;> (simp only [sx_ev, sx_evl, gs_ofNat, gs_neg] ; omega))⟩
  · exact ⟨sx_σi [(18, (.ofNat 2, [(18, .ofNat 1)]))] σ, gs_fix_of rfl hf0, gs_cnt_of rfl hc0 hn, gs_none rfl, gs_none rfl, gs_none rfl, gs_none rfl, gs_lo rfl, tv_gv_ftt a b c d e f g h hLB (gs_F hq0 hf0 hc0 (by (repeat' (first | exact bk_F0 | (refine bk_F1 ?_ ?_))) <;> (simp only [sx_ev, sx_evl, gs_ofNat, gs_neg] ; omega))) (by (repeat' (first | exact gs_t0 | (refine gs_t1 ?_ ?_))) <;> (simp only [sx_ev, sx_evl, gs_ofNat, gs_neg] ; omega))⟩
  · exact ⟨sx_σi [(18, (.ofNat 2, [(18, .ofNat 1)]))] σ, gs_fix_of rfl hf0, gs_cnt_of rfl hc0 hn, gs_none rfl, gs_none rfl, gs_none rfl, gs_none rfl, gs_lo rfl, tv_gv_tff a b c d e f g h hLB (gs_F hq0 hf0 hc0 (by (repeat' (first | exact bk_F0 | (refine bk_F1 ?_ ?_))) <;> (simp only [sx_ev, sx_evl, gs_ofNat, gs_neg] ; omega))) (by (repeat' (first | exact gs_t0 | (refine gs_t1 ?_ ?_))) <;> (simp only [sx_ev, sx_evl, gs_ofNat, gs_neg] ; omega))⟩
  · exact ⟨sx_σi [(18, (.ofNat 2, [(18, .ofNat 1)]))] σ, gs_fix_of rfl hf0, gs_cnt_of rfl hc0 hn, gs_none rfl, gs_none rfl, gs_none rfl, gs_none rfl, gs_lo rfl, tv_gv_tft a b c d e f g h hLB (gs_F hq0 hf0 hc0 (by (repeat' (first | exact bk_F0 | (refine bk_F1 ?_ ?_))) <;> (simp only [sx_ev, sx_evl, gs_ofNat, gs_neg] ; omega))) (by (repeat' (first | exact gs_t0 | (refine gs_t1 ?_ ?_))) <;> (simp only [sx_ev, sx_evl, gs_ofNat, gs_neg] ; omega))⟩
  · exact ⟨sx_σi [(18, (.ofNat 2, [(18, .ofNat 1)]))] σ, gs_fix_of rfl hf0, gs_cnt_of rfl hc0 hn, gs_none rfl, gs_none rfl, gs_none rfl, gs_none rfl, gs_lo rfl, tv_gv_ttf a b c d e f g h hLB (gs_F hq0 hf0 hc0 (by (repeat' (first | exact bk_F0 | (refine bk_F1 ?_ ?_))) <;> (simp only [sx_ev, sx_evl, gs_ofNat, gs_neg] ; omega))) (by (repeat' (first | exact gs_t0 | (refine gs_t1 ?_ ?_))) <;> (simp only [sx_ev, sx_evl, gs_ofNat, gs_neg] ; omega))⟩
  · exact ⟨sx_σi [(18, (.ofNat 2, [(18, .ofNat 1)]))] σ, gs_fix_of rfl hf0, gs_cnt_of rfl hc0 hn, gs_none rfl, gs_none rfl, gs_none rfl, gs_none rfl, gs_lo rfl, tv_gv_ttt a b c d e f g h hLB (gs_F hq0 hf0 hc0 (by (repeat' (first | exact bk_F0 | (refine bk_F1 ?_ ?_))) <;> (simp only [sx_ev, sx_evl, gs_ofNat, gs_neg] ; omega))) (by (repeat' (first | exact gs_t0 | (refine gs_t1 ?_ ?_))) <;> (simp only [sx_ev, sx_evl, gs_ofNat, gs_neg] ; omega))⟩
theorem gs_pb {q : gs_P} {a b c d e f g h : Bool} {LB : List (Nat × sx_C)} {z : Nat → Nat} {σ : Nat → Int} {n : Int} (hLB : bk_lb LB = true) (hq : gs_ok q) (hb : gs_bits q a b c d e f g h) (hf : gs_fix q σ) (hc : gs_cnt n σ) {y v j : Bool} {y0 v0 g0 w0 : Int} (hy : (y = true → σ 13 = y0) ∧ (y = false → y0 = q.d)) (hv0 : (v = true → σ 14 = v0) ∧ (v = false → v0 = y0)) (hv1 : -100 ≤ v0 ∧ v0 ≤ 100) (hg1 : -6 ≤ g0 ∧ g0 ≤ 6) (j1 : j = true → g0 = q.h) (j2 : j = false → g0 = q.g) {r : Bool} (hr : r = Nat.blt q.B 3) (hv : gs_act q.B v0 g0 = some w0) (hn : n + 1 ≤ 3800) : ∃ σ' : Nat → Int, gs_fix q σ' ∧ gs_cnt (n + 1) σ' ∧ σ' 16 = σ 16 ∧ σ' 10 = σ 10 ∧ σ' 13 = σ 13 ∧ σ' 14 = σ 14 ∧ (r = true → σ' 15 = w0) ∧ (r = false → w0 = g0) ∧ gx_G 40 sm_X8_go 14 560 9 135 z σ (bk_pt 4 xL [] (gp_PB a b c d e f g h y v j LB) 300) σ' (bk_pt 4 xL [] (gp_QR a b c d e f g h y v j r LB) 300) := by
  have hf0 := hf
  have hc0 := hc
  have hq0 := hq
  obtain ⟨f1, f2, f3, f4, f5, f6, f7, f8, f9, f10, f11⟩ := hf
  obtain ⟨⟨q1, q2, q3, q4, q5, q6, q7, q8, q9, q10, q11, q12⟩, ⟨q13, q14, q15⟩, ⟨q16, q17, q18⟩, ⟨q19, q20⟩, q21, q22⟩ := hq
  obtain ⟨b1, b2, b3, b4, b5, b6, b7, b8⟩ := hb
  obtain ⟨y1, y2⟩ := hy
  obtain ⟨v1, v2⟩ := hv0
  obtain ⟨v3, v4⟩ := hv1
  obtain ⟨g3, g4⟩ := hg1
  have hB : q.B = 0 ∨ q.B = 1 ∨ q.B = 2 ∨ q.B = 3 ∨ q.B = 4 ∨ q.B = 5 := by omega
  rcases hB with hB | hB | hB | hB | hB | hB <;> rw [hB] at f11 hv <;> simp only [gs_op] at f11 <;> simp only [gs_act] at hv
  · obtain rfl : r = true := by rw [hr, hB]; rfl
    have hv := Option.some.inj hv
    cases y <;> cases v <;> cases j
    · have j5 := j2 rfl
      have v5 := v2 rfl
      have y5 := y2 rfl
      exact ⟨sx_σi [(15, (.ofNat 0, [(32, .ofNat 1), (35, .ofNat 1)])), (18, (.ofNat 1, [(18, .ofNat 1)]))] σ, gs_fix_of rfl hf0, gs_cnt_of rfl hc0 hn, gs_none rfl, gs_none rfl, gs_none rfl, gs_none rfl, (fun _ => (gs_some rfl).trans (by (simp only [sx_ev, sx_evl, gs_ofNat, gs_neg] ; omega))), (fun e => nomatch e), gs_lo rfl, tv_pb_p_0_fff a b c d e f g h hLB (gs_F hq0 hf0 hc0 (by (repeat' (first | exact bk_F0 | (refine bk_F1 ?_ ?_))) <;> (simp only [sx_ev, sx_evl, gs_ofNat, gs_neg] ; omega))) (by (repeat' (first | exact gs_t0 | (refine gs_t1 ?_ ?_))) <;> (simp only [sx_ev, sx_evl, gs_ofNat, gs_neg] ; omega))⟩
    · have j5 := j1 rfl
      have v5 := v2 rfl
      have y5 := y2 rfl
      exact ⟨sx_σi [(15, (.ofNat 0, [(32, .ofNat 1), (36, .ofNat 1)])), (18, (.ofNat 1, [(18, .ofNat 1)]))] σ, gs_fix_of rfl hf0, gs_cnt_of rfl hc0 hn, gs_none rfl, gs_none rfl, gs_none rfl, gs_none rfl, (fun _ => (gs_some rfl).trans (by (simp only [sx_ev, sx_evl, gs_ofNat, gs_neg] ; omega))), (fun e => nomatch e), gs_lo rfl, tv_pb_p_0_fft a b c d e f g h hLB (gs_F hq0 hf0 hc0 (by (repeat' (first | exact bk_F0 | (refine bk_F1 ?_ ?_))) <;> (simp only [sx_ev, sx_evl, gs_ofNat, gs_neg] ; omega))) (by (repeat' (first | exact gs_t0 | (refine gs_t1 ?_ ?_))) <;> (simp only [sx_ev, sx_evl, gs_ofNat, gs_neg] ; omega))⟩
    · have j5 := j2 rfl
      have v5 := v1 rfl
      exact ⟨sx_σi [(15, (.ofNat 0, [(14, .ofNat 1), (35, .ofNat 1)])), (18, (.ofNat 1, [(18, .ofNat 1)]))] σ, gs_fix_of rfl hf0, gs_cnt_of rfl hc0 hn, gs_none rfl, gs_none rfl, gs_none rfl, gs_none rfl, (fun _ => (gs_some rfl).trans (by (simp only [sx_ev, sx_evl, gs_ofNat, gs_neg] ; omega))), (fun e => nomatch e), gs_lo rfl, tv_pb_p_0_ftf a b c d e f g h hLB (gs_F hq0 hf0 hc0 (by (repeat' (first | exact bk_F0 | (refine bk_F1 ?_ ?_))) <;> (simp only [sx_ev, sx_evl, gs_ofNat, gs_neg] ; omega))) (by (repeat' (first | exact gs_t0 | (refine gs_t1 ?_ ?_))) <;> (simp only [sx_ev, sx_evl, gs_ofNat, gs_neg] ; omega))⟩
    · have j5 := j1 rfl
      have v5 := v1 rfl
      exact ⟨sx_σi [(15, (.ofNat 0, [(14, .ofNat 1), (36, .ofNat 1)])), (18, (.ofNat 1, [(18, .ofNat 1)]))] σ, gs_fix_of rfl hf0, gs_cnt_of rfl hc0 hn, gs_none rfl, gs_none rfl, gs_none rfl, gs_none rfl, (fun _ => (gs_some rfl).trans (by (simp only [sx_ev, sx_evl, gs_ofNat, gs_neg] ; omega))), (fun e => nomatch e), gs_lo rfl, tv_pb_p_0_ftt a b c d e f g h hLB (gs_F hq0 hf0 hc0 (by (repeat' (first | exact bk_F0 | (refine bk_F1 ?_ ?_))) <;> (simp only [sx_ev, sx_evl, gs_ofNat, gs_neg] ; omega))) (by (repeat' (first | exact gs_t0 | (refine gs_t1 ?_ ?_))) <;> (simp only [sx_ev, sx_evl, gs_ofNat, gs_neg] ; omega))⟩
    · have j5 := j2 rfl
      have v5 := v2 rfl
      have y5 := y1 rfl
      exact ⟨sx_σi [(15, (.ofNat 0, [(13, .ofNat 1), (35, .ofNat 1)])), (18, (.ofNat 1, [(18, .ofNat 1)]))] σ, gs_fix_of rfl hf0, gs_cnt_of rfl hc0 hn, gs_none rfl, gs_none rfl, gs_none rfl, gs_none rfl, (fun _ => (gs_some rfl).trans (by (simp only [sx_ev, sx_evl, gs_ofNat, gs_neg] ; omega))), (fun e => nomatch e), gs_lo rfl, tv_pb_p_0_tff a b c d e f g h hLB (gs_F hq0 hf0 hc0 (by (repeat' (first | exact bk_F0 | (refine bk_F1 ?_ ?_))) <;> (simp only [sx_ev, sx_evl, gs_ofNat, gs_neg] ; omega))) (by (repeat' (first | exact gs_t0 | (refine gs_t1 ?_ ?_))) <;> (simp only [sx_ev, sx_evl, gs_ofNat, gs_neg] ; omega))⟩
    · have j5 := j1 rfl
      have v5 := v2 rfl
      have y5 := y1 rfl
      exact ⟨sx_σi [(15, (.ofNat 0, [(13, .ofNat 1), (36, .ofNat 1)])), (18, (.ofNat 1, [(18, .ofNat 1)]))] σ, gs_fix_of rfl hf0, gs_cnt_of rfl hc0 hn, gs_none rfl, gs_none rfl, gs_none rfl, gs_none rfl, (fun _ => (gs_some rfl).trans (by (simp only [sx_ev, sx_evl, gs_ofNat, gs_neg] ; omega))), (fun e => nomatch e), gs_lo rfl, tv_pb_p_0_tft a b c d e f g h hLB (gs_F hq0 hf0 hc0 (by (repeat' (first | exact bk_F0 | (refine bk_F1 ?_ ?_))) <;> (simp only [sx_ev, sx_evl, gs_ofNat, gs_neg] ; omega))) (by (repeat' (first | exact gs_t0 | (refine gs_t1 ?_ ?_))) <;> (simp only [sx_ev, sx_evl, gs_ofNat, gs_neg] ; omega))⟩
    · have j5 := j2 rfl
      have v5 := v1 rfl
      exact ⟨sx_σi [(15, (.ofNat 0, [(14, .ofNat 1), (35, .ofNat 1)])), (18, (.ofNat 1, [(18, .ofNat 1)]))] σ, gs_fix_of rfl hf0, gs_cnt_of rfl hc0 hn, gs_none rfl, gs_none rfl, gs_none rfl, gs_none rfl, (fun _ => (gs_some rfl).trans (by (simp only [sx_ev, sx_evl, gs_ofNat, gs_neg] ; omega))), (fun e => nomatch e), gs_lo rfl, tv_pb_p_0_ttf a b c d e f g h hLB (gs_F hq0 hf0 hc0 (by (repeat' (first | exact bk_F0 | (refine bk_F1 ?_ ?_))) <;> (simp only [sx_ev, sx_evl, gs_ofNat, gs_neg] ; omega))) (by (repeat' (first | exact gs_t0 | (refine gs_t1 ?_ ?_))) <;> (simp only [sx_ev, sx_evl, gs_ofNat, gs_neg] ; omega))⟩
    · have j5 := j1 rfl
      have v5 := v1 rfl
      exact ⟨sx_σi [(15, (.ofNat 0, [(14, .ofNat 1), (36, .ofNat 1)])), (18, (.ofNat 1, [(18, .ofNat 1)]))] σ, gs_fix_of rfl hf0, gs_cnt_of rfl hc0 hn, gs_none rfl, gs_none rfl, gs_none rfl, gs_none rfl, (fun _ => (gs_some rfl).trans (by (simp only [sx_ev, sx_evl, gs_ofNat, gs_neg] ; omega))), (fun e => nomatch e), gs_lo rfl, tv_pb_p_0_ttt a b c d e f g h hLB (gs_F hq0 hf0 hc0 (by (repeat' (first | exact bk_F0 | (refine bk_F1 ?_ ?_))) <;> (simp only [sx_ev, sx_evl, gs_ofNat, gs_neg] ; omega))) (by (repeat' (first | exact gs_t0 | (refine gs_t1 ?_ ?_))) <;> (simp only [sx_ev, sx_evl, gs_ofNat, gs_neg] ; omega))⟩
  · obtain rfl : r = true := by rw [hr, hB]; rfl
    have hv := Option.some.inj hv
    cases y <;> cases v <;> cases j
    · have j5 := j2 rfl
      have v5 := v2 rfl
      have y5 := y2 rfl
      exact ⟨sx_σi [(15, (.ofNat 0, [(32, .ofNat 1), (35, .negSucc 0)])), (18, (.ofNat 1, [(18, .ofNat 1)]))] σ, gs_fix_of rfl hf0, gs_cnt_of rfl hc0 hn, gs_none rfl, gs_none rfl, gs_none rfl, gs_none rfl, (fun _ => (gs_some rfl).trans (by (simp only [sx_ev, sx_evl, gs_ofNat, gs_neg] ; omega))), (fun e => nomatch e), gs_lo rfl, tv_pb_mi_0_fff a b c d e f g h hLB (gs_F hq0 hf0 hc0 (by (repeat' (first | exact bk_F0 | (refine bk_F1 ?_ ?_))) <;> (simp only [sx_ev, sx_evl, gs_ofNat, gs_neg] ; omega))) (by (repeat' (first | exact gs_t0 | (refine gs_t1 ?_ ?_))) <;> (simp only [sx_ev, sx_evl, gs_ofNat, gs_neg] ; omega))⟩
    · have j5 := j1 rfl
      have v5 := v2 rfl
      have y5 := y2 rfl
      exact ⟨sx_σi [(15, (.ofNat 0, [(32, .ofNat 1), (36, .negSucc 0)])), (18, (.ofNat 1, [(18, .ofNat 1)]))] σ, gs_fix_of rfl hf0, gs_cnt_of rfl hc0 hn, gs_none rfl, gs_none rfl, gs_none rfl, gs_none rfl, (fun _ => (gs_some rfl).trans (by (simp only [sx_ev, sx_evl, gs_ofNat, gs_neg] ; omega))), (fun e => nomatch e), gs_lo rfl, tv_pb_mi_0_fft a b c d e f g h hLB (gs_F hq0 hf0 hc0 (by (repeat' (first | exact bk_F0 | (refine bk_F1 ?_ ?_))) <;> (simp only [sx_ev, sx_evl, gs_ofNat, gs_neg] ; omega))) (by (repeat' (first | exact gs_t0 | (refine gs_t1 ?_ ?_))) <;> (simp only [sx_ev, sx_evl, gs_ofNat, gs_neg] ; omega))⟩
    · have j5 := j2 rfl
      have v5 := v1 rfl
      exact ⟨sx_σi [(15, (.ofNat 0, [(14, .ofNat 1), (35, .negSucc 0)])), (18, (.ofNat 1, [(18, .ofNat 1)]))] σ, gs_fix_of rfl hf0, gs_cnt_of rfl hc0 hn, gs_none rfl, gs_none rfl, gs_none rfl, gs_none rfl, (fun _ => (gs_some rfl).trans (by (simp only [sx_ev, sx_evl, gs_ofNat, gs_neg] ; omega))), (fun e => nomatch e), gs_lo rfl, tv_pb_mi_0_ftf a b c d e f g h hLB (gs_F hq0 hf0 hc0 (by (repeat' (first | exact bk_F0 | (refine bk_F1 ?_ ?_))) <;> (simp only [sx_ev, sx_evl, gs_ofNat, gs_neg] ; omega))) (by (repeat' (first | exact gs_t0 | (refine gs_t1 ?_ ?_))) <;> (simp only [sx_ev, sx_evl, gs_ofNat, gs_neg] ; omega))⟩
    · have j5 := j1 rfl
      have v5 := v1 rfl
      exact ⟨sx_σi [(15, (.ofNat 0, [(14, .ofNat 1), (36, .negSucc 0)])), (18, (.ofNat 1, [(18, .ofNat 1)]))] σ, gs_fix_of rfl hf0, gs_cnt_of rfl hc0 hn, gs_none rfl, gs_none rfl, gs_none rfl, gs_none rfl, (fun _ => (gs_some rfl).trans (by (simp only [sx_ev, sx_evl, gs_ofNat, gs_neg] ; omega))), (fun e => nomatch e), gs_lo rfl, tv_pb_mi_0_ftt a b c d e f g h hLB (gs_F hq0 hf0 hc0 (by (repeat' (first | exact bk_F0 | (refine bk_F1 ?_ ?_))) <;> (simp only [sx_ev, sx_evl, gs_ofNat, gs_neg] ; omega))) (by (repeat' (first | exact gs_t0 | (refine gs_t1 ?_ ?_))) <;> (simp only [sx_ev, sx_evl, gs_ofNat, gs_neg] ; omega))⟩
    · have j5 := j2 rfl
      have v5 := v2 rfl
      have y5 := y1 rfl
      exact ⟨sx_σi [(15, (.ofNat 0, [(13, .ofNat 1), (35, .negSucc 0)])), (18, (.ofNat 1, [(18, .ofNat 1)]))] σ, gs_fix_of rfl hf0, gs_cnt_of rfl hc0 hn, gs_none rfl, gs_none rfl, gs_none rfl, gs_none rfl, (fun _ => (gs_some rfl).trans (by (simp only [sx_ev, sx_evl, gs_ofNat, gs_neg] ; omega))), (fun e => nomatch e), gs_lo rfl, tv_pb_mi_0_tff a b c d e f g h hLB (gs_F hq0 hf0 hc0 (by (repeat' (first | exact bk_F0 | (refine bk_F1 ?_ ?_))) <;> (simp only [sx_ev, sx_evl, gs_ofNat, gs_neg] ; omega))) (by (repeat' (first | exact gs_t0 | (refine gs_t1 ?_ ?_))) <;> (simp only [sx_ev, sx_evl, gs_ofNat, gs_neg] ; omega))⟩
    · have j5 := j1 rfl
      have v5 := v2 rfl
      have y5 := y1 rfl
      exact ⟨sx_σi [(15, (.ofNat 0, [(13, .ofNat 1), (36, .negSucc 0)])), (18, (.ofNat 1, [(18, .ofNat 1)]))] σ, gs_fix_of rfl hf0, gs_cnt_of rfl hc0 hn, gs_none rfl, gs_none rfl, gs_none rfl, gs_none rfl, (fun _ => (gs_some rfl).trans (by (simp only [sx_ev, sx_evl, gs_ofNat, gs_neg] ; omega))), (fun e => nomatch e), gs_lo rfl, tv_pb_mi_0_tft a b c d e f g h hLB (gs_F hq0 hf0 hc0 (by (repeat' (first | exact bk_F0 | (refine bk_F1 ?_ ?_))) <;> (simp only [sx_ev, sx_evl, gs_ofNat, gs_neg] ; omega))) (by (repeat' (first | exact gs_t0 | (refine gs_t1 ?_ ?_))) <;> (simp only [sx_ev, sx_evl, gs_ofNat, gs_neg] ; omega))⟩
    · have j5 := j2 rfl
      have v5 := v1 rfl
      exact ⟨sx_σi [(15, (.ofNat 0, [(14, .ofNat 1), (35, .negSucc 0)])), (18, (.ofNat 1, [(18, .ofNat 1)]))] σ, gs_fix_of rfl hf0, gs_cnt_of rfl hc0 hn, gs_none rfl, gs_none rfl, gs_none rfl, gs_none rfl, (fun _ => (gs_some rfl).trans (by (simp only [sx_ev, sx_evl, gs_ofNat, gs_neg] ; omega))), (fun e => nomatch e), gs_lo rfl, tv_pb_mi_0_ttf a b c d e f g h hLB (gs_F hq0 hf0 hc0 (by (repeat' (first | exact bk_F0 | (refine bk_F1 ?_ ?_))) <;> (simp only [sx_ev, sx_evl, gs_ofNat, gs_neg] ; omega))) (by (repeat' (first | exact gs_t0 | (refine gs_t1 ?_ ?_))) <;> (simp only [sx_ev, sx_evl, gs_ofNat, gs_neg] ; omega))⟩
    · have j5 := j1 rfl
      have v5 := v1 rfl
      exact ⟨sx_σi [(15, (.ofNat 0, [(14, .ofNat 1), (36, .negSucc 0)])), (18, (.ofNat 1, [(18, .ofNat 1)]))] σ, gs_fix_of rfl hf0, gs_cnt_of rfl hc0 hn, gs_none rfl, gs_none rfl, gs_none rfl, gs_none rfl, (fun _ => (gs_some rfl).trans (by (simp only [sx_ev, sx_evl, gs_ofNat, gs_neg] ; omega))), (fun e => nomatch e), gs_lo rfl, tv_pb_mi_0_ttt a b c d e f g h hLB (gs_F hq0 hf0 hc0 (by (repeat' (first | exact bk_F0 | (refine bk_F1 ?_ ?_))) <;> (simp only [sx_ev, sx_evl, gs_ofNat, gs_neg] ; omega))) (by (repeat' (first | exact gs_t0 | (refine gs_t1 ?_ ?_))) <;> (simp only [sx_ev, sx_evl, gs_ofNat, gs_neg] ; omega))⟩
  · obtain rfl : r = true := by rw [hr, hB]; rfl
    have hv := Option.some.inj hv
    have hk : g0 = -6 ∨ g0 = -5 ∨ g0 = -4 ∨ g0 = -3 ∨ g0 = -2 ∨ g0 = -1 ∨ g0 = 0 ∨ g0 = 1 ∨ g0 = 2 ∨ g0 = 3 ∨ g0 = 4 ∨ g0 = 5 ∨ g0 = 6 := by omega
    rcases hk with hk | hk | hk | hk | hk | hk | hk | hk | hk | hk | hk | hk | hk <;> rw [hk] at hv <;> rcases Int.le_total 0 v0 with h0 | h0 <;> cases y <;> cases v <;> cases j
    · have j5 := j2 rfl
      have v5 := v2 rfl
      have y5 := y2 rfl
      exact ⟨sx_σi [(15, (.ofNat 0, [(32, .negSucc 5)])), (18, (.ofNat 1, [(18, .ofNat 1)]))] σ, gs_fix_of rfl hf0, gs_cnt_of rfl hc0 hn, gs_none rfl, gs_none rfl, gs_none rfl, gs_none rfl, (fun _ => (gs_some rfl).trans (by (simp only [sx_ev, sx_evl, gs_ofNat, gs_neg] ; omega))), (fun e => nomatch e), gs_lo rfl, tv_pb_t_0_fff a b c d e f g h hLB (gs_F hq0 hf0 hc0 (by (repeat' (first | exact bk_F0 | (refine bk_F1 ?_ ?_))) <;> (simp only [sx_ev, sx_evl, gs_ofNat, gs_neg] ; omega))) (by (repeat' (first | exact gs_t0 | (refine gs_t1 ?_ ?_))) <;> (simp only [sx_ev, sx_evl, gs_ofNat, gs_neg] ; omega))⟩
    · have j5 := j1 rfl
      have v5 := v2 rfl
      have y5 := y2 rfl
      exact ⟨sx_σi [(15, (.ofNat 0, [(32, .negSucc 5)])), (18, (.ofNat 1, [(18, .ofNat 1)]))] σ, gs_fix_of rfl hf0, gs_cnt_of rfl hc0 hn, gs_none rfl, gs_none rfl, gs_none rfl, gs_none rfl, (fun _ => (gs_some rfl).trans (by (simp only [sx_ev, sx_evl, gs_ofNat, gs_neg] ; omega))), (fun e => nomatch e), gs_lo rfl, tv_pb_t_0_fft a b c d e f g h hLB (gs_F hq0 hf0 hc0 (by (repeat' (first | exact bk_F0 | (refine bk_F1 ?_ ?_))) <;> (simp only [sx_ev, sx_evl, gs_ofNat, gs_neg] ; omega))) (by (repeat' (first | exact gs_t0 | (refine gs_t1 ?_ ?_))) <;> (simp only [sx_ev, sx_evl, gs_ofNat, gs_neg] ; omega))⟩
    · have j5 := j2 rfl
      have v5 := v1 rfl
      exact ⟨sx_σi [(15, (.ofNat 0, [(14, .negSucc 5)])), (18, (.ofNat 1, [(18, .ofNat 1)]))] σ, gs_fix_of rfl hf0, gs_cnt_of rfl hc0 hn, gs_none rfl, gs_none rfl, gs_none rfl, gs_none rfl, (fun _ => (gs_some rfl).trans (by (simp only [sx_ev, sx_evl, gs_ofNat, gs_neg] ; omega))), (fun e => nomatch e), gs_lo rfl, tv_pb_t_0_ftf a b c d e f g h hLB (gs_F hq0 hf0 hc0 (by (repeat' (first | exact bk_F0 | (refine bk_F1 ?_ ?_))) <;> (simp only [sx_ev, sx_evl, gs_ofNat, gs_neg] ; omega))) (by (repeat' (first | exact gs_t0 | (refine gs_t1 ?_ ?_))) <;> (simp only [sx_ev, sx_evl, gs_ofNat, gs_neg] ; omega))⟩
    · have j5 := j1 rfl
      have v5 := v1 rfl
      exact ⟨sx_σi [(15, (.ofNat 0, [(14, .negSucc 5)])), (18, (.ofNat 1, [(18, .ofNat 1)]))] σ, gs_fix_of rfl hf0, gs_cnt_of rfl hc0 hn, gs_none rfl, gs_none rfl, gs_none rfl, gs_none rfl, (fun _ => (gs_some rfl).trans (by (simp only [sx_ev, sx_evl, gs_ofNat, gs_neg] ; omega))), (fun e => nomatch e), gs_lo rfl, tv_pb_t_0_ftt a b c d e f g h hLB (gs_F hq0 hf0 hc0 (by (repeat' (first | exact bk_F0 | (refine bk_F1 ?_ ?_))) <;> (simp only [sx_ev, sx_evl, gs_ofNat, gs_neg] ; omega))) (by (repeat' (first | exact gs_t0 | (refine gs_t1 ?_ ?_))) <;> (simp only [sx_ev, sx_evl, gs_ofNat, gs_neg] ; omega))⟩
    · have j5 := j2 rfl
      have v5 := v2 rfl
      have y5 := y1 rfl
      exact ⟨sx_σi [(15, (.ofNat 0, [(13, .negSucc 5)])), (18, (.ofNat 1, [(18, .ofNat 1)]))] σ, gs_fix_of rfl hf0, gs_cnt_of rfl hc0 hn, gs_none rfl, gs_none rfl, gs_none rfl, gs_none rfl, (fun _ => (gs_some rfl).trans (by (simp only [sx_ev, sx_evl, gs_ofNat, gs_neg] ; omega))), (fun e => nomatch e), gs_lo rfl, tv_pb_t_0_tff a b c d e f g h hLB (gs_F hq0 hf0 hc0 (by (repeat' (first | exact bk_F0 | (refine bk_F1 ?_ ?_))) <;> (simp only [sx_ev, sx_evl, gs_ofNat, gs_neg] ; omega))) (by (repeat' (first | exact gs_t0 | (refine gs_t1 ?_ ?_))) <;> (simp only [sx_ev, sx_evl, gs_ofNat, gs_neg] ; omega))⟩
    · have j5 := j1 rfl
      have v5 := v2 rfl
      have y5 := y1 rfl
      exact ⟨sx_σi [(15, (.ofNat 0, [(13, .negSucc 5)])), (18, (.ofNat 1, [(18, .ofNat 1)]))] σ, gs_fix_of rfl hf0, gs_cnt_of rfl hc0 hn, gs_none rfl, gs_none rfl, gs_none rfl, gs_none rfl, (fun _ => (gs_some rfl).trans (by (simp only [sx_ev, sx_evl, gs_ofNat, gs_neg] ; omega))), (fun e => nomatch e), gs_lo rfl, tv_pb_t_0_tft a b c d e f g h hLB (gs_F hq0 hf0 hc0 (by (repeat' (first | exact bk_F0 | (refine bk_F1 ?_ ?_))) <;> (simp only [sx_ev, sx_evl, gs_ofNat, gs_neg] ; omega))) (by (repeat' (first | exact gs_t0 | (refine gs_t1 ?_ ?_))) <;> (simp only [sx_ev, sx_evl, gs_ofNat, gs_neg] ; omega))⟩
    · have j5 := j2 rfl
      have v5 := v1 rfl
      exact ⟨sx_σi [(15, (.ofNat 0, [(14, .negSucc 5)])), (18, (.ofNat 1, [(18, .ofNat 1)]))] σ, gs_fix_of rfl hf0, gs_cnt_of rfl hc0 hn, gs_none rfl, gs_none rfl, gs_none rfl, gs_none rfl, (fun _ => (gs_some rfl).trans (by (simp only [sx_ev, sx_evl, gs_ofNat, gs_neg] ; omega))), (fun e => nomatch e), gs_lo rfl, tv_pb_t_0_ttf a b c d e f g h hLB (gs_F hq0 hf0 hc0 (by (repeat' (first | exact bk_F0 | (refine bk_F1 ?_ ?_))) <;> (simp only [sx_ev, sx_evl, gs_ofNat, gs_neg] ; omega))) (by (repeat' (first | exact gs_t0 | (refine gs_t1 ?_ ?_))) <;> (simp only [sx_ev, sx_evl, gs_ofNat, gs_neg] ; omega))⟩
    · have j5 := j1 rfl
      have v5 := v1 rfl
      exact ⟨sx_σi [(15, (.ofNat 0, [(14, .negSucc 5)])), (18, (.ofNat 1, [(18, .ofNat 1)]))] σ, gs_fix_of rfl hf0, gs_cnt_of rfl hc0 hn, gs_none rfl, gs_none rfl, gs_none rfl, gs_none rfl, (fun _ => (gs_some rfl).trans (by (simp only [sx_ev, sx_evl, gs_ofNat, gs_neg] ; omega))), (fun e => nomatch e), gs_lo rfl, tv_pb_t_0_ttt a b c d e f g h hLB (gs_F hq0 hf0 hc0 (by (repeat' (first | exact bk_F0 | (refine bk_F1 ?_ ?_))) <;> (simp only [sx_ev, sx_evl, gs_ofNat, gs_neg] ; omega))) (by (repeat' (first | exact gs_t0 | (refine gs_t1 ?_ ?_))) <;> (simp only [sx_ev, sx_evl, gs_ofNat, gs_neg] ; omega))⟩
    · have j5 := j2 rfl
      have v5 := v2 rfl
      have y5 := y2 rfl
      exact ⟨sx_σi [(15, (.ofNat 0, [(32, .negSucc 5)])), (18, (.ofNat 1, [(18, .ofNat 1)]))] σ, gs_fix_of rfl hf0, gs_cnt_of rfl hc0 hn, gs_none rfl, gs_none rfl, gs_none rfl, gs_none rfl, (fun _ => (gs_some rfl).trans (by (simp only [sx_ev, sx_evl, gs_ofNat, gs_neg] ; omega))), (fun e => nomatch e), gs_lo rfl, tv_pb_t_1_fff a b c d e f g h hLB (gs_F hq0 hf0 hc0 (by (repeat' (first | exact bk_F0 | (refine bk_F1 ?_ ?_))) <;> (simp only [sx_ev, sx_evl, gs_ofNat, gs_neg] ; omega))) (by (repeat' (first | exact gs_t0 | (refine gs_t1 ?_ ?_))) <;> (simp only [sx_ev, sx_evl, gs_ofNat, gs_neg] ; omega))⟩
    · have j5 := j1 rfl
      have v5 := v2 rfl
      have y5 := y2 rfl
      exact ⟨sx_σi [(15, (.ofNat 0, [(32, .negSucc 5)])), (18, (.ofNat 1, [(18, .ofNat 1)]))] σ, gs_fix_of rfl hf0, gs_cnt_of rfl hc0 hn, gs_none rfl, gs_none rfl, gs_none rfl, gs_none rfl, (fun _ => (gs_some rfl).trans (by (simp only [sx_ev, sx_evl, gs_ofNat, gs_neg] ; omega))), (fun e => nomatch e), gs_lo rfl, tv_pb_t_1_fft a b c d e f g h hLB (gs_F hq0 hf0 hc0 (by (repeat' (first | exact bk_F0 | (refine bk_F1 ?_ ?_))) <;> (simp only [sx_ev, sx_evl, gs_ofNat, gs_neg] ; omega))) (by (repeat' (first | exact gs_t0 | (refine gs_t1 ?_ ?_))) <;> (simp only [sx_ev, sx_evl, gs_ofNat, gs_neg] ; omega))⟩
    · have j5 := j2 rfl
      have v5 := v1 rfl
      exact ⟨sx_σi [(15, (.ofNat 0, [(14, .negSucc 5)])), (18, (.ofNat 1, [(18, .ofNat 1)]))] σ, gs_fix_of rfl hf0, gs_cnt_of rfl hc0 hn, gs_none rfl, gs_none rfl, gs_none rfl, gs_none rfl, (fun _ => (gs_some rfl).trans (by (simp only [sx_ev, sx_evl, gs_ofNat, gs_neg] ; omega))), (fun e => nomatch e), gs_lo rfl, tv_pb_t_1_ftf a b c d e f g h hLB (gs_F hq0 hf0 hc0 (by (repeat' (first | exact bk_F0 | (refine bk_F1 ?_ ?_))) <;> (simp only [sx_ev, sx_evl, gs_ofNat, gs_neg] ; omega))) (by (repeat' (first | exact gs_t0 | (refine gs_t1 ?_ ?_))) <;> (simp only [sx_ev, sx_evl, gs_ofNat, gs_neg] ; omega))⟩
    · have j5 := j1 rfl
      have v5 := v1 rfl
      exact ⟨sx_σi [(15, (.ofNat 0, [(14, .negSucc 5)])), (18, (.ofNat 1, [(18, .ofNat 1)]))] σ, gs_fix_of rfl hf0, gs_cnt_of rfl hc0 hn, gs_none rfl, gs_none rfl, gs_none rfl, gs_none rfl, (fun _ => (gs_some rfl).trans (by (simp only [sx_ev, sx_evl, gs_ofNat, gs_neg] ; omega))), (fun e => nomatch e), gs_lo rfl, tv_pb_t_1_ftt a b c d e f g h hLB (gs_F hq0 hf0 hc0 (by (repeat' (first | exact bk_F0 | (refine bk_F1 ?_ ?_))) <;> (simp only [sx_ev, sx_evl, gs_ofNat, gs_neg] ; omega))) (by (repeat' (first | exact gs_t0 | (refine gs_t1 ?_ ?_))) <;> (simp only [sx_ev, sx_evl, gs_ofNat, gs_neg] ; omega))⟩
    · have j5 := j2 rfl
      have v5 := v2 rfl
      have y5 := y1 rfl
      exact ⟨sx_σi [(15, (.ofNat 0, [(13, .negSucc 5)])), (18, (.ofNat 1, [(18, .ofNat 1)]))] σ, gs_fix_of rfl hf0, gs_cnt_of rfl hc0 hn, gs_none rfl, gs_none rfl, gs_none rfl, gs_none rfl, (fun _ => (gs_some rfl).trans (by (simp only [sx_ev, sx_evl, gs_ofNat, gs_neg] ; omega))), (fun e => nomatch e), gs_lo rfl, tv_pb_t_1_tff a b c d e f g h hLB (gs_F hq0 hf0 hc0 (by (repeat' (first | exact bk_F0 | (refine bk_F1 ?_ ?_))) <;> (simp only [sx_ev, sx_evl, gs_ofNat, gs_neg] ; omega))) (by (repeat' (first | exact gs_t0 | (refine gs_t1 ?_ ?_))) <;> (simp only [sx_ev, sx_evl, gs_ofNat, gs_neg] ; omega))⟩
    · have j5 := j1 rfl
      have v5 := v2 rfl
      have y5 := y1 rfl
      exact ⟨sx_σi [(15, (.ofNat 0, [(13, .negSucc 5)])), (18, (.ofNat 1, [(18, .ofNat 1)]))] σ, gs_fix_of rfl hf0, gs_cnt_of rfl hc0 hn, gs_none rfl, gs_none rfl, gs_none rfl, gs_none rfl, (fun _ => (gs_some rfl).trans (by (simp only [sx_ev, sx_evl, gs_ofNat, gs_neg] ; omega))), (fun e => nomatch e), gs_lo rfl, tv_pb_t_1_tft a b c d e f g h hLB (gs_F hq0 hf0 hc0 (by (repeat' (first | exact bk_F0 | (refine bk_F1 ?_ ?_))) <;> (simp only [sx_ev, sx_evl, gs_ofNat, gs_neg] ; omega))) (by (repeat' (first | exact gs_t0 | (refine gs_t1 ?_ ?_))) <;> (simp only [sx_ev, sx_evl, gs_ofNat, gs_neg] ; omega))⟩
    · have j5 := j2 rfl
      have v5 := v1 rfl
      exact ⟨sx_σi [(15, (.ofNat 0, [(14, .negSucc 5)])), (18, (.ofNat 1, [(18, .ofNat 1)]))] σ, gs_fix_of rfl hf0, gs_cnt_of rfl hc0 hn, gs_none rfl, gs_none rfl, gs_none rfl, gs_none rfl, (fun _ => (gs_some rfl).trans (by (simp only [sx_ev, sx_evl, gs_ofNat, gs_neg] ; omega))), (fun e => nomatch e), gs_lo rfl, tv_pb_t_1_ttf a b c d e f g h hLB (gs_F hq0 hf0 hc0 (by (repeat' (first | exact bk_F0 | (refine bk_F1 ?_ ?_))) <;> (simp only [sx_ev, sx_evl, gs_ofNat, gs_neg] ; omega))) (by (repeat' (first | exact gs_t0 | (refine gs_t1 ?_ ?_))) <;> (simp only [sx_ev, sx_evl, gs_ofNat, gs_neg] ; omega))⟩
    · have j5 := j1 rfl
      have v5 := v1 rfl
      exact ⟨sx_σi [(15, (.ofNat 0, [(14, .negSucc 5)])), (18, (.ofNat 1, [(18, .ofNat 1)]))] σ, gs_fix_of rfl hf0, gs_cnt_of rfl hc0 hn, gs_none rfl, gs_none rfl, gs_none rfl, gs_none rfl, (fun _ => (gs_some rfl).trans (by (simp only [sx_ev, sx_evl, gs_ofNat, gs_neg] ; omega))), (fun e => nomatch e), gs_lo rfl, tv_pb_t_1_ttt a b c d e f g h hLB (gs_F hq0 hf0 hc0 (by (repeat' (first | exact bk_F0 | (refine bk_F1 ?_ ?_))) <;> (simp only [sx_ev, sx_evl, gs_ofNat, gs_neg] ; omega))) (by (repeat' (first | exact gs_t0 | (refine gs_t1 ?_ ?_))) <;> (simp only [sx_ev, sx_evl, gs_ofNat, gs_neg] ; omega))⟩
    · have j5 := j2 rfl
      have v5 := v2 rfl
      have y5 := y2 rfl
      exact ⟨sx_σi [(15, (.ofNat 0, [(32, .negSucc 4)])), (18, (.ofNat 1, [(18, .ofNat 1)]))] σ, gs_fix_of rfl hf0, gs_cnt_of rfl hc0 hn, gs_none rfl, gs_none rfl, gs_none rfl, gs_none rfl, (fun _ => (gs_some rfl).trans (by (simp only [sx_ev, sx_evl, gs_ofNat, gs_neg] ; omega))), (fun e => nomatch e), gs_lo rfl, tv_pb_t_2_fff a b c d e f g h hLB (gs_F hq0 hf0 hc0 (by (repeat' (first | exact bk_F0 | (refine bk_F1 ?_ ?_))) <;> (simp only [sx_ev, sx_evl, gs_ofNat, gs_neg] ; omega))) (by (repeat' (first | exact gs_t0 | (refine gs_t1 ?_ ?_))) <;> (simp only [sx_ev, sx_evl, gs_ofNat, gs_neg] ; omega))⟩
    · have j5 := j1 rfl
      have v5 := v2 rfl
      have y5 := y2 rfl
      exact ⟨sx_σi [(15, (.ofNat 0, [(32, .negSucc 4)])), (18, (.ofNat 1, [(18, .ofNat 1)]))] σ, gs_fix_of rfl hf0, gs_cnt_of rfl hc0 hn, gs_none rfl, gs_none rfl, gs_none rfl, gs_none rfl, (fun _ => (gs_some rfl).trans (by (simp only [sx_ev, sx_evl, gs_ofNat, gs_neg] ; omega))), (fun e => nomatch e), gs_lo rfl, tv_pb_t_2_fft a b c d e f g h hLB (gs_F hq0 hf0 hc0 (by (repeat' (first | exact bk_F0 | (refine bk_F1 ?_ ?_))) <;> (simp only [sx_ev, sx_evl, gs_ofNat, gs_neg] ; omega))) (by (repeat' (first | exact gs_t0 | (refine gs_t1 ?_ ?_))) <;> (simp only [sx_ev, sx_evl, gs_ofNat, gs_neg] ; omega))⟩
    · have j5 := j2 rfl
      have v5 := v1 rfl
      exact ⟨sx_σi [(15, (.ofNat 0, [(14, .negSucc 4)])), (18, (.ofNat 1, [(18, .ofNat 1)]))] σ, gs_fix_of rfl hf0, gs_cnt_of rfl hc0 hn, gs_none rfl, gs_none rfl, gs_none rfl, gs_none rfl, (fun _ => (gs_some rfl).trans (by (simp only [sx_ev, sx_evl, gs_ofNat, gs_neg] ; omega))), (fun e => nomatch e), gs_lo rfl, tv_pb_t_2_ftf a b c d e f g h hLB (gs_F hq0 hf0 hc0 (by (repeat' (first | exact bk_F0 | (refine bk_F1 ?_ ?_))) <;> (simp only [sx_ev, sx_evl, gs_ofNat, gs_neg] ; omega))) (by (repeat' (first | exact gs_t0 | (refine gs_t1 ?_ ?_))) <;> (simp only [sx_ev, sx_evl, gs_ofNat, gs_neg] ; omega))⟩
    · have j5 := j1 rfl
      have v5 := v1 rfl
      exact ⟨sx_σi [(15, (.ofNat 0, [(14, .negSucc 4)])), (18, (.ofNat 1, [(18, .ofNat 1)]))] σ, gs_fix_of rfl hf0, gs_cnt_of rfl hc0 hn, gs_none rfl, gs_none rfl, gs_none rfl, gs_none rfl, (fun _ => (gs_some rfl).trans (by (simp only [sx_ev, sx_evl, gs_ofNat, gs_neg] ; omega))), (fun e => nomatch e), gs_lo rfl, tv_pb_t_2_ftt a b c d e f g h hLB (gs_F hq0 hf0 hc0 (by (repeat' (first | exact bk_F0 | (refine bk_F1 ?_ ?_))) <;> (simp only [sx_ev, sx_evl, gs_ofNat, gs_neg] ; omega))) (by (repeat' (first | exact gs_t0 | (refine gs_t1 ?_ ?_))) <;> (simp only [sx_ev, sx_evl, gs_ofNat, gs_neg] ; omega))⟩
    · have j5 := j2 rfl
      have v5 := v2 rfl
      have y5 := y1 rfl
      exact ⟨sx_σi [(15, (.ofNat 0, [(13, .negSucc 4)])), (18, (.ofNat 1, [(18, .ofNat 1)]))] σ, gs_fix_of rfl hf0, gs_cnt_of rfl hc0 hn, gs_none rfl, gs_none rfl, gs_none rfl, gs_none rfl, (fun _ => (gs_some rfl).trans (by (simp only [sx_ev, sx_evl, gs_ofNat, gs_neg] ; omega))), (fun e => nomatch e), gs_lo rfl, tv_pb_t_2_tff a b c d e f g h hLB (gs_F hq0 hf0 hc0 (by (repeat' (first | exact bk_F0 | (refine bk_F1 ?_ ?_))) <;> (simp only [sx_ev, sx_evl, gs_ofNat, gs_neg] ; omega))) (by (repeat' (first | exact gs_t0 | (refine gs_t1 ?_ ?_))) <;> (simp only [sx_ev, sx_evl, gs_ofNat, gs_neg] ; omega))⟩
    · have j5 := j1 rfl
      have v5 := v2 rfl
      have y5 := y1 rfl
      exact ⟨sx_σi [(15, (.ofNat 0, [(13, .negSucc 4)])), (18, (.ofNat 1, [(18, .ofNat 1)]))] σ, gs_fix_of rfl hf0, gs_cnt_of rfl hc0 hn, gs_none rfl, gs_none rfl, gs_none rfl, gs_none rfl, (fun _ => (gs_some rfl).trans (by (simp only [sx_ev, sx_evl, gs_ofNat, gs_neg] ; omega))), (fun e => nomatch e), gs_lo rfl, tv_pb_t_2_tft a b c d e f g h hLB (gs_F hq0 hf0 hc0 (by (repeat' (first | exact bk_F0 | (refine bk_F1 ?_ ?_))) <;> (simp only [sx_ev, sx_evl, gs_ofNat, gs_neg] ; omega))) (by (repeat' (first | exact gs_t0 | (refine gs_t1 ?_ ?_))) <;> (simp only [sx_ev, sx_evl, gs_ofNat, gs_neg] ; omega))⟩
    · have j5 := j2 rfl
      have v5 := v1 rfl
      exact ⟨sx_σi [(15, (.ofNat 0, [(14, .negSucc 4)])), (18, (.ofNat 1, [(18, .ofNat 1)]))] σ, gs_fix_of rfl hf0, gs_cnt_of rfl hc0 hn, gs_none rfl, gs_none rfl, gs_none rfl, gs_none rfl, (fun _ => (gs_some rfl).trans (by (simp only [sx_ev, sx_evl, gs_ofNat, gs_neg] ; omega))), (fun e => nomatch e), gs_lo rfl, tv_pb_t_2_ttf a b c d e f g h hLB (gs_F hq0 hf0 hc0 (by (repeat' (first | exact bk_F0 | (refine bk_F1 ?_ ?_))) <;> (simp only [sx_ev, sx_evl, gs_ofNat, gs_neg] ; omega))) (by (repeat' (first | exact gs_t0 | (refine gs_t1 ?_ ?_))) <;> (simp only [sx_ev, sx_evl, gs_ofNat, gs_neg] ; omega))⟩
    · have j5 := j1 rfl
      have v5 := v1 rfl
      exact ⟨sx_σi [(15, (.ofNat 0, [(14, .negSucc 4)])), (18, (.ofNat 1, [(18, .ofNat 1)]))] σ, gs_fix_of rfl hf0, gs_cnt_of rfl hc0 hn, gs_none rfl, gs_none rfl, gs_none rfl, gs_none rfl, (fun _ => (gs_some rfl).trans (by (simp only [sx_ev, sx_evl, gs_ofNat, gs_neg] ; omega))), (fun e => nomatch e), gs_lo rfl, tv_pb_t_2_ttt a b c d e f g h hLB (gs_F hq0 hf0 hc0 (by (repeat' (first | exact bk_F0 | (refine bk_F1 ?_ ?_))) <;> (simp only [sx_ev, sx_evl, gs_ofNat, gs_neg] ; omega))) (by (repeat' (first | exact gs_t0 | (refine gs_t1 ?_ ?_))) <;> (simp only [sx_ev, sx_evl, gs_ofNat, gs_neg] ; omega))⟩
    · have j5 := j2 rfl
      have v5 := v2 rfl
      have y5 := y2 rfl
      exact ⟨sx_σi [(15, (.ofNat 0, [(32, .negSucc 4)])), (18, (.ofNat 1, [(18, .ofNat 1)]))] σ, gs_fix_of rfl hf0, gs_cnt_of rfl hc0 hn, gs_none rfl, gs_none rfl, gs_none rfl, gs_none rfl, (fun _ => (gs_some rfl).trans (by (simp only [sx_ev, sx_evl, gs_ofNat, gs_neg] ; omega))), (fun e => nomatch e), gs_lo rfl, tv_pb_t_3_fff a b c d e f g h hLB (gs_F hq0 hf0 hc0 (by (repeat' (first | exact bk_F0 | (refine bk_F1 ?_ ?_))) <;> (simp only [sx_ev, sx_evl, gs_ofNat, gs_neg] ; omega))) (by (repeat' (first | exact gs_t0 | (refine gs_t1 ?_ ?_))) <;> (simp only [sx_ev, sx_evl, gs_ofNat, gs_neg] ; omega))⟩
    · have j5 := j1 rfl
      have v5 := v2 rfl
      have y5 := y2 rfl
      exact ⟨sx_σi [(15, (.ofNat 0, [(32, .negSucc 4)])), (18, (.ofNat 1, [(18, .ofNat 1)]))] σ, gs_fix_of rfl hf0, gs_cnt_of rfl hc0 hn, gs_none rfl, gs_none rfl, gs_none rfl, gs_none rfl, (fun _ => (gs_some rfl).trans (by (simp only [sx_ev, sx_evl, gs_ofNat, gs_neg] ; omega))), (fun e => nomatch e), gs_lo rfl, tv_pb_t_3_fft a b c d e f g h hLB (gs_F hq0 hf0 hc0 (by (repeat' (first | exact bk_F0 | (refine bk_F1 ?_ ?_))) <;> (simp only [sx_ev, sx_evl, gs_ofNat, gs_neg] ; omega))) (by (repeat' (first | exact gs_t0 | (refine gs_t1 ?_ ?_))) <;> (simp only [sx_ev, sx_evl, gs_ofNat, gs_neg] ; omega))⟩
    · have j5 := j2 rfl
      have v5 := v1 rfl
      exact ⟨sx_σi [(15, (.ofNat 0, [(14, .negSucc 4)])), (18, (.ofNat 1, [(18, .ofNat 1)]))] σ, gs_fix_of rfl hf0, gs_cnt_of rfl hc0 hn, gs_none rfl, gs_none rfl, gs_none rfl, gs_none rfl, (fun _ => (gs_some rfl).trans (by (simp only [sx_ev, sx_evl, gs_ofNat, gs_neg] ; omega))), (fun e => nomatch e), gs_lo rfl, tv_pb_t_3_ftf a b c d e f g h hLB (gs_F hq0 hf0 hc0 (by (repeat' (first | exact bk_F0 | (refine bk_F1 ?_ ?_))) <;> (simp only [sx_ev, sx_evl, gs_ofNat, gs_neg] ; omega))) (by (repeat' (first | exact gs_t0 | (refine gs_t1 ?_ ?_))) <;> (simp only [sx_ev, sx_evl, gs_ofNat, gs_neg] ; omega))⟩
    · have j5 := j1 rfl
      have v5 := v1 rfl
      exact ⟨sx_σi [(15, (.ofNat 0, [(14, .negSucc 4)])), (18, (.ofNat 1, [(18, .ofNat 1)]))] σ, gs_fix_of rfl hf0, gs_cnt_of rfl hc0 hn, gs_none rfl, gs_none rfl, gs_none rfl, gs_none rfl, (fun _ => (gs_some rfl).trans (by (simp only [sx_ev, sx_evl, gs_ofNat, gs_neg] ; omega))), (fun e => nomatch e), gs_lo rfl, tv_pb_t_3_ftt a b c d e f g h hLB (gs_F hq0 hf0 hc0 (by (repeat' (first | exact bk_F0 | (refine bk_F1 ?_ ?_))) <;> (simp only [sx_ev, sx_evl, gs_ofNat, gs_neg] ; omega))) (by (repeat' (first | exact gs_t0 | (refine gs_t1 ?_ ?_))) <;> (simp only [sx_ev, sx_evl, gs_ofNat, gs_neg] ; omega))⟩
    · have j5 := j2 rfl
      have v5 := v2 rfl
      have y5 := y1 rfl
      exact ⟨sx_σi [(15, (.ofNat 0, [(13, .negSucc 4)])), (18, (.ofNat 1, [(18, .ofNat 1)]))] σ, gs_fix_of rfl hf0, gs_cnt_of rfl hc0 hn, gs_none rfl, gs_none rfl, gs_none rfl, gs_none rfl, (fun _ => (gs_some rfl).trans (by (simp only [sx_ev, sx_evl, gs_ofNat, gs_neg] ; omega))), (fun e => nomatch e), gs_lo rfl, tv_pb_t_3_tff a b c d e f g h hLB (gs_F hq0 hf0 hc0 (by (repeat' (first | exact bk_F0 | (refine bk_F1 ?_ ?_))) <;> (simp only [sx_ev, sx_evl, gs_ofNat, gs_neg] ; omega))) (by (repeat' (first | exact gs_t0 | (refine gs_t1 ?_ ?_))) <;> (simp only [sx_ev, sx_evl, gs_ofNat, gs_neg] ; omega))⟩
    · have j5 := j1 rfl
      have v5 := v2 rfl
      have y5 := y1 rfl
      exact ⟨sx_σi [(15, (.ofNat 0, [(13, .negSucc 4)])), (18, (.ofNat 1, [(18, .ofNat 1)]))] σ, gs_fix_of rfl hf0, gs_cnt_of rfl hc0 hn, gs_none rfl, gs_none rfl, gs_none rfl, gs_none rfl, (fun _ => (gs_some rfl).trans (by (simp only [sx_ev, sx_evl, gs_ofNat, gs_neg] ; omega))), (fun e => nomatch e), gs_lo rfl, tv_pb_t_3_tft a b c d e f g h hLB (gs_F hq0 hf0 hc0 (by (repeat' (first | exact bk_F0 | (refine bk_F1 ?_ ?_))) <;> (simp only [sx_ev, sx_evl, gs_ofNat, gs_neg] ; omega))) (by (repeat' (first | exact gs_t0 | (refine gs_t1 ?_ ?_))) <;> (simp only [sx_ev, sx_evl, gs_ofNat, gs_neg] ; omega))⟩
    · have j5 := j2 rfl
      have v5 := v1 rfl
      exact ⟨sx_σi [(15, (.ofNat 0, [(14, .negSucc 4)])), (18, (.ofNat 1, [(18, .ofNat 1)]))] σ, gs_fix_of rfl hf0, gs_cnt_of rfl hc0 hn, gs_none rfl, gs_none rfl, gs_none rfl, gs_none rfl, (fun _ => (gs_some rfl).trans (by (simp only [sx_ev, sx_evl, gs_ofNat, gs_neg] ; omega))), (fun e => nomatch e), gs_lo rfl, tv_pb_t_3_ttf a b c d e f g h hLB (gs_F hq0 hf0 hc0 (by (repeat' (first | exact bk_F0 | (refine bk_F1 ?_ ?_))) <;> (simp only [sx_ev, sx_evl, gs_ofNat, gs_neg] ; omega))) (by (repeat' (first | exact gs_t0 | (refine gs_t1 ?_ ?_))) <;> (simp only [sx_ev, sx_evl, gs_ofNat, gs_neg] ; omega))⟩
    · have j5 := j1 rfl
      have v5 := v1 rfl
      exact ⟨sx_σi [(15, (.ofNat 0, [(14, .negSucc 4)])), (18, (.ofNat 1, [(18, .ofNat 1)]))] σ, gs_fix_of rfl hf0, gs_cnt_of rfl hc0 hn, gs_none rfl, gs_none rfl, gs_none rfl, gs_none rfl, (fun _ => (gs_some rfl).trans (by (simp only [sx_ev, sx_evl, gs_ofNat, gs_neg] ; omega))), (fun e => nomatch e), gs_lo rfl, tv_pb_t_3_ttt a b c d e f g h hLB (gs_F hq0 hf0 hc0 (by (repeat' (first | exact bk_F0 | (refine bk_F1 ?_ ?_))) <;> (simp only [sx_ev, sx_evl, gs_ofNat, gs_neg] ; omega))) (by (repeat' (first | exact gs_t0 | (refine gs_t1 ?_ ?_))) <;> (simp only [sx_ev, sx_evl, gs_ofNat, gs_neg] ; omega))⟩
    · have j5 := j2 rfl
      have v5 := v2 rfl
      have y5 := y2 rfl
      exact ⟨sx_σi [(15, (.ofNat 0, [(32, .negSucc 3)])), (18, (.ofNat 1, [(18, .ofNat 1)]))] σ, gs_fix_of rfl hf0, gs_cnt_of rfl hc0 hn, gs_none rfl, gs_none rfl, gs_none rfl, gs_none rfl, (fun _ => (gs_some rfl).trans (by (simp only [sx_ev, sx_evl, gs_ofNat, gs_neg] ; omega))), (fun e => nomatch e), gs_lo rfl, tv_pb_t_4_fff a b c d e f g h hLB (gs_F hq0 hf0 hc0 (by (repeat' (first | exact bk_F0 | (refine bk_F1 ?_ ?_))) <;> (simp only [sx_ev, sx_evl, gs_ofNat, gs_neg] ; omega))) (by (repeat' (first | exact gs_t0 | (refine gs_t1 ?_ ?_))) <;> (simp only [sx_ev, sx_evl, gs_ofNat, gs_neg] ; omega))⟩
    · have j5 := j1 rfl
      have v5 := v2 rfl
      have y5 := y2 rfl
      exact ⟨sx_σi [(15, (.ofNat 0, [(32, .negSucc 3)])), (18, (.ofNat 1, [(18, .ofNat 1)]))] σ, gs_fix_of rfl hf0, gs_cnt_of rfl hc0 hn, gs_none rfl, gs_none rfl, gs_none rfl, gs_none rfl, (fun _ => (gs_some rfl).trans (by (simp only [sx_ev, sx_evl, gs_ofNat, gs_neg] ; omega))), (fun e => nomatch e), gs_lo rfl, tv_pb_t_4_fft a b c d e f g h hLB (gs_F hq0 hf0 hc0 (by (repeat' (first | exact bk_F0 | (refine bk_F1 ?_ ?_))) <;> (simp only [sx_ev, sx_evl, gs_ofNat, gs_neg] ; omega))) (by (repeat' (first | exact gs_t0 | (refine gs_t1 ?_ ?_))) <;> (simp only [sx_ev, sx_evl, gs_ofNat, gs_neg] ; omega))⟩
    · have j5 := j2 rfl
      have v5 := v1 rfl
      exact ⟨sx_σi [(15, (.ofNat 0, [(14, .negSucc 3)])), (18, (.ofNat 1, [(18, .ofNat 1)]))] σ, gs_fix_of rfl hf0, gs_cnt_of rfl hc0 hn, gs_none rfl, gs_none rfl, gs_none rfl, gs_none rfl, (fun _ => (gs_some rfl).trans (by (simp only [sx_ev, sx_evl, gs_ofNat, gs_neg] ; omega))), (fun e => nomatch e), gs_lo rfl, tv_pb_t_4_ftf a b c d e f g h hLB (gs_F hq0 hf0 hc0 (by (repeat' (first | exact bk_F0 | (refine bk_F1 ?_ ?_))) <;> (simp only [sx_ev, sx_evl, gs_ofNat, gs_neg] ; omega))) (by (repeat' (first | exact gs_t0 | (refine gs_t1 ?_ ?_))) <;> (simp only [sx_ev, sx_evl, gs_ofNat, gs_neg] ; omega))⟩
    · have j5 := j1 rfl
      have v5 := v1 rfl
      exact ⟨sx_σi [(15, (.ofNat 0, [(14, .negSucc 3)])), (18, (.ofNat 1, [(18, .ofNat 1)]))] σ, gs_fix_of rfl hf0, gs_cnt_of rfl hc0 hn, gs_none rfl, gs_none rfl, gs_none rfl, gs_none rfl, (fun _ => (gs_some rfl).trans (by (simp only [sx_ev, sx_evl, gs_ofNat, gs_neg] ; omega))), (fun e => nomatch e), gs_lo rfl, tv_pb_t_4_ftt a b c d e f g h hLB (gs_F hq0 hf0 hc0 (by (repeat' (first | exact bk_F0 | (refine bk_F1 ?_ ?_))) <;> (simp only [sx_ev, sx_evl, gs_ofNat, gs_neg] ; omega))) (by (repeat' (first | exact gs_t0 | (refine gs_t1 ?_ ?_))) <;> (simp only [sx_ev, sx_evl, gs_ofNat, gs_neg] ; omega))⟩
    · have j5 := j2 rfl
      have v5 := v2 rfl
      have y5 := y1 rfl
      exact ⟨sx_σi [(15, (.ofNat 0, [(13, .negSucc 3)])), (18, (.ofNat 1, [(18, .ofNat 1)]))] σ, gs_fix_of rfl hf0, gs_cnt_of rfl hc0 hn, gs_none rfl, gs_none rfl, gs_none rfl, gs_none rfl, (fun _ => (gs_some rfl).trans (by (simp only [sx_ev, sx_evl, gs_ofNat, gs_neg] ; omega))), (fun e => nomatch e), gs_lo rfl, tv_pb_t_4_tff a b c d e f g h hLB (gs_F hq0 hf0 hc0 (by (repeat' (first | exact bk_F0 | (refine bk_F1 ?_ ?_))) <;> (simp only [sx_ev, sx_evl, gs_ofNat, gs_neg] ; omega))) (by (repeat' (first | exact gs_t0 | (refine gs_t1 ?_ ?_))) <;> (simp only [sx_ev, sx_evl, gs_ofNat, gs_neg] ; omega))⟩
    · have j5 := j1 rfl
      have v5 := v2 rfl
      have y5 := y1 rfl
      exact ⟨sx_σi [(15, (.ofNat 0, [(13, .negSucc 3)])), (18, (.ofNat 1, [(18, .ofNat 1)]))] σ, gs_fix_of rfl hf0, gs_cnt_of rfl hc0 hn, gs_none rfl, gs_none rfl, gs_none rfl, gs_none rfl, (fun _ => (gs_some rfl).trans (by (simp only [sx_ev, sx_evl, gs_ofNat, gs_neg] ; omega))), (fun e => nomatch e), gs_lo rfl, tv_pb_t_4_tft a b c d e f g h hLB (gs_F hq0 hf0 hc0 (by (repeat' (first | exact bk_F0 | (refine bk_F1 ?_ ?_))) <;> (simp only [sx_ev, sx_evl, gs_ofNat, gs_neg] ; omega))) (by (repeat' (first | exact gs_t0 | (refine gs_t1 ?_ ?_))) <;> (simp only [sx_ev, sx_evl, gs_ofNat, gs_neg] ; omega))⟩
    · have j5 := j2 rfl
      have v5 := v1 rfl
      exact ⟨sx_σi [(15, (.ofNat 0, [(14, .negSucc 3)])), (18, (.ofNat 1, [(18, .ofNat 1)]))] σ, gs_fix_of rfl hf0, gs_cnt_of rfl hc0 hn, gs_none rfl, gs_none rfl, gs_none rfl, gs_none rfl, (fun _ => (gs_some rfl).trans (by (simp only [sx_ev, sx_evl, gs_ofNat, gs_neg] ; omega))), (fun e => nomatch e), gs_lo rfl, tv_pb_t_4_ttf a b c d e f g h hLB (gs_F hq0 hf0 hc0 (by (repeat' (first | exact bk_F0 | (refine bk_F1 ?_ ?_))) <;> (simp only [sx_ev, sx_evl, gs_ofNat, gs_neg] ; omega))) (by (repeat' (first | exact gs_t0 | (refine gs_t1 ?_ ?_))) <;> (simp only [sx_ev, sx_evl, gs_ofNat, gs_neg] ; omega))⟩
    · have j5 := j1 rfl
      have v5 := v1 rfl
      exact ⟨sx_σi [(15, (.ofNat 0, [(14, .negSucc 3)])), (18, (.ofNat 1, [(18, .ofNat 1)]))] σ, gs_fix_of rfl hf0, gs_cnt_of rfl hc0 hn, gs_none rfl, gs_none rfl, gs_none rfl, gs_none rfl, (fun _ => (gs_some rfl).trans (by (simp only [sx_ev, sx_evl, gs_ofNat, gs_neg] ; omega))), (fun e => nomatch e), gs_lo rfl, tv_pb_t_4_ttt a b c d e f g h hLB (gs_F hq0 hf0 hc0 (by (repeat' (first | exact bk_F0 | (refine bk_F1 ?_ ?_))) <;> (simp only [sx_ev, sx_evl, gs_ofNat, gs_neg] ; omega))) (by (repeat' (first | exact gs_t0 | (refine gs_t1 ?_ ?_))) <;> (simp only [sx_ev, sx_evl, gs_ofNat, gs_neg] ; omega))⟩
    · have j5 := j2 rfl
      have v5 := v2 rfl
      have y5 := y2 rfl
      exact ⟨sx_σi [(15, (.ofNat 0, [(32, .negSucc 3)])), (18, (.ofNat 1, [(18, .ofNat 1)]))] σ, gs_fix_of rfl hf0, gs_cnt_of rfl hc0 hn, gs_none rfl, gs_none rfl, gs_none rfl, gs_none rfl, (fun _ => (gs_some rfl).trans (by (simp only [sx_ev, sx_evl, gs_ofNat, gs_neg] ; omega))), (fun e => nomatch e), gs_lo rfl, tv_pb_t_5_fff a b c d e f g h hLB (gs_F hq0 hf0 hc0 (by (repeat' (first | exact bk_F0 | (refine bk_F1 ?_ ?_))) <;> (simp only [sx_ev, sx_evl, gs_ofNat, gs_neg] ; omega))) (by (repeat' (first | exact gs_t0 | (refine gs_t1 ?_ ?_))) <;> (simp only [sx_ev, sx_evl, gs_ofNat, gs_neg] ; omega))⟩
    · have j5 := j1 rfl
      have v5 := v2 rfl
      have y5 := y2 rfl
      exact ⟨sx_σi [(15, (.ofNat 0, [(32, .negSucc 3)])), (18, (.ofNat 1, [(18, .ofNat 1)]))] σ, gs_fix_of rfl hf0, gs_cnt_of rfl hc0 hn, gs_none rfl, gs_none rfl, gs_none rfl, gs_none rfl, (fun _ => (gs_some rfl).trans (by (simp only [sx_ev, sx_evl, gs_ofNat, gs_neg] ; omega))), (fun e => nomatch e), gs_lo rfl, tv_pb_t_5_fft a b c d e f g h hLB (gs_F hq0 hf0 hc0 (by (repeat' (first | exact bk_F0 | (refine bk_F1 ?_ ?_))) <;> (simp only [sx_ev, sx_evl, gs_ofNat, gs_neg] ; omega))) (by (repeat' (first | exact gs_t0 | (refine gs_t1 ?_ ?_))) <;> (simp only [sx_ev, sx_evl, gs_ofNat, gs_neg] ; omega))⟩
    · have j5 := j2 rfl
      have v5 := v1 rfl
      exact ⟨sx_σi [(15, (.ofNat 0, [(14, .negSucc 3)])), (18, (.ofNat 1, [(18, .ofNat 1)]))] σ, gs_fix_of rfl hf0, gs_cnt_of rfl hc0 hn, gs_none rfl, gs_none rfl, gs_none rfl, gs_none rfl, (fun _ => (gs_some rfl).trans (by (simp only [sx_ev, sx_evl, gs_ofNat, gs_neg] ; omega))), (fun e => nomatch e), gs_lo rfl, tv_pb_t_5_ftf a b c d e f g h hLB (gs_F hq0 hf0 hc0 (by (repeat' (first | exact bk_F0 | (refine bk_F1 ?_ ?_))) <;> (simp only [sx_ev, sx_evl, gs_ofNat, gs_neg] ; omega))) (by (repeat' (first | exact gs_t0 | (refine gs_t1 ?_ ?_))) <;> (simp only [sx_ev, sx_evl, gs_ofNat, gs_neg] ; omega))⟩
    · have j5 := j1 rfl
      have v5 := v1 rfl
      exact ⟨sx_σi [(15, (.ofNat 0, [(14, .negSucc 3)])), (18, (.ofNat 1, [(18, .ofNat 1)]))] σ, gs_fix_of rfl hf0, gs_cnt_of rfl hc0 hn, gs_none rfl, gs_none rfl, gs_none rfl, gs_none rfl, (fun _ => (gs_some rfl).trans (by (simp only [sx_ev, sx_evl, gs_ofNat, gs_neg] ; omega))), (fun e => nomatch e), gs_lo rfl, tv_pb_t_5_ftt a b c d e f g h hLB (gs_F hq0 hf0 hc0 (by (repeat' (first | exact bk_F0 | (refine bk_F1 ?_ ?_))) <;> (simp only [sx_ev, sx_evl, gs_ofNat, gs_neg] ; omega))) (by (repeat' (first | exact gs_t0 | (refine gs_t1 ?_ ?_))) <;> (simp only [sx_ev, sx_evl, gs_ofNat, gs_neg] ; omega))⟩
    · have j5 := j2 rfl
      have v5 := v2 rfl
      have y5 := y1 rfl
      exact ⟨sx_σi [(15, (.ofNat 0, [(13, .negSucc 3)])), (18, (.ofNat 1, [(18, .ofNat 1)]))] σ, gs_fix_of rfl hf0, gs_cnt_of rfl hc0 hn, gs_none rfl, gs_none rfl, gs_none rfl, gs_none rfl, (fun _ => (gs_some rfl).trans (by (simp only [sx_ev, sx_evl, gs_ofNat, gs_neg] ; omega))), (fun e => nomatch e), gs_lo rfl, tv_pb_t_5_tff a b c d e f g h hLB (gs_F hq0 hf0 hc0 (by (repeat' (first | exact bk_F0 | (refine bk_F1 ?_ ?_))) <;> (simp only [sx_ev, sx_evl, gs_ofNat, gs_neg] ; omega))) (by (repeat' (first | exact gs_t0 | (refine gs_t1 ?_ ?_))) <;> (simp only [sx_ev, sx_evl, gs_ofNat, gs_neg] ; omega))⟩
    · have j5 := j1 rfl
      have v5 := v2 rfl
      have y5 := y1 rfl
      exact ⟨sx_σi [(15, (.ofNat 0, [(13, .negSucc 3)])), (18, (.ofNat 1, [(18, .ofNat 1)]))] σ, gs_fix_of rfl hf0, gs_cnt_of rfl hc0 hn, gs_none rfl, gs_none rfl, gs_none rfl, gs_none rfl, (fun _ => (gs_some rfl).trans (by (simp only [sx_ev, sx_evl, gs_ofNat, gs_neg] ; omega))), (fun e => nomatch e), gs_lo rfl, tv_pb_t_5_tft a b c d e f g h hLB (gs_F hq0 hf0 hc0 (by (repeat' (first | exact bk_F0 | (refine bk_F1 ?_ ?_))) <;> (simp only [sx_ev, sx_evl, gs_ofNat, gs_neg] ; omega))) (by (repeat' (first | exact gs_t0 | (refine gs_t1 ?_ ?_))) <;> (simp only [sx_ev, sx_evl, gs_ofNat, gs_neg] ; omega))⟩
    · have j5 := j2 rfl
      have v5 := v1 rfl
      exact ⟨sx_σi [(15, (.ofNat 0, [(14, .negSucc 3)])), (18, (.ofNat 1, [(18, .ofNat 1)]))] σ, gs_fix_of rfl hf0, gs_cnt_of rfl hc0 hn, gs_none rfl, gs_none rfl, gs_none rfl, gs_none rfl, (fun _ => (gs_some rfl).trans (by (simp only [sx_ev, sx_evl, gs_ofNat, gs_neg] ; omega))), (fun e => nomatch e), gs_lo rfl, tv_pb_t_5_ttf a b c d e f g h hLB (gs_F hq0 hf0 hc0 (by (repeat' (first | exact bk_F0 | (refine bk_F1 ?_ ?_))) <;> (simp only [sx_ev, sx_evl, gs_ofNat, gs_neg] ; omega))) (by (repeat' (first | exact gs_t0 | (refine gs_t1 ?_ ?_))) <;> (simp only [sx_ev, sx_evl, gs_ofNat, gs_neg] ; omega))⟩
    · have j5 := j1 rfl
      have v5 := v1 rfl
      exact ⟨sx_σi [(15, (.ofNat 0, [(14, .negSucc 3)])), (18, (.ofNat 1, [(18, .ofNat 1)]))] σ, gs_fix_of rfl hf0, gs_cnt_of rfl hc0 hn, gs_none rfl, gs_none rfl, gs_none rfl, gs_none rfl, (fun _ => (gs_some rfl).trans (by (simp only [sx_ev, sx_evl, gs_ofNat, gs_neg] ; omega))), (fun e => nomatch e), gs_lo rfl, tv_pb_t_5_ttt a b c d e f g h hLB (gs_F hq0 hf0 hc0 (by (repeat' (first | exact bk_F0 | (refine bk_F1 ?_ ?_))) <;> (simp only [sx_ev, sx_evl, gs_ofNat, gs_neg] ; omega))) (by (repeat' (first | exact gs_t0 | (refine gs_t1 ?_ ?_))) <;> (simp only [sx_ev, sx_evl, gs_ofNat, gs_neg] ; omega))⟩
    · have j5 := j2 rfl
      have v5 := v2 rfl
      have y5 := y2 rfl
      exact ⟨sx_σi [(15, (.ofNat 0, [(32, .negSucc 2)])), (18, (.ofNat 1, [(18, .ofNat 1)]))] σ, gs_fix_of rfl hf0, gs_cnt_of rfl hc0 hn, gs_none rfl, gs_none rfl, gs_none rfl, gs_none rfl, (fun _ => (gs_some rfl).trans (by (simp only [sx_ev, sx_evl, gs_ofNat, gs_neg] ; omega))), (fun e => nomatch e), gs_lo rfl, tv_pb_t_6_fff a b c d e f g h hLB (gs_F hq0 hf0 hc0 (by (repeat' (first | exact bk_F0 | (refine bk_F1 ?_ ?_))) <;> (simp only [sx_ev, sx_evl, gs_ofNat, gs_neg] ; omega))) (by (repeat' (first | exact gs_t0 | (refine gs_t1 ?_ ?_))) <;> (simp only [sx_ev, sx_evl, gs_ofNat, gs_neg] ; omega))⟩
    · have j5 := j1 rfl
      have v5 := v2 rfl
      have y5 := y2 rfl
      exact ⟨sx_σi [(15, (.ofNat 0, [(32, .negSucc 2)])), (18, (.ofNat 1, [(18, .ofNat 1)]))] σ, gs_fix_of rfl hf0, gs_cnt_of rfl hc0 hn, gs_none rfl, gs_none rfl, gs_none rfl, gs_none rfl, (fun _ => (gs_some rfl).trans (by (simp only [sx_ev, sx_evl, gs_ofNat, gs_neg] ; omega))), (fun e => nomatch e), gs_lo rfl, tv_pb_t_6_fft a b c d e f g h hLB (gs_F hq0 hf0 hc0 (by (repeat' (first | exact bk_F0 | (refine bk_F1 ?_ ?_))) <;> (simp only [sx_ev, sx_evl, gs_ofNat, gs_neg] ; omega))) (by (repeat' (first | exact gs_t0 | (refine gs_t1 ?_ ?_))) <;> (simp only [sx_ev, sx_evl, gs_ofNat, gs_neg] ; omega))⟩
    · have j5 := j2 rfl
      have v5 := v1 rfl
      exact ⟨sx_σi [(15, (.ofNat 0, [(14, .negSucc 2)])), (18, (.ofNat 1, [(18, .ofNat 1)]))] σ, gs_fix_of rfl hf0, gs_cnt_of rfl hc0 hn, gs_none rfl, gs_none rfl, gs_none rfl, gs_none rfl, (fun _ => (gs_some rfl).trans (by (simp only [sx_ev, sx_evl, gs_ofNat, gs_neg] ; omega))), (fun e => nomatch e), gs_lo rfl, tv_pb_t_6_ftf a b c d e f g h hLB (gs_F hq0 hf0 hc0 (by (repeat' (first | exact bk_F0 | (refine bk_F1 ?_ ?_))) <;> (simp only [sx_ev, sx_evl, gs_ofNat, gs_neg] ; omega))) (by (repeat' (first | exact gs_t0 | (refine gs_t1 ?_ ?_))) <;> (simp only [sx_ev, sx_evl, gs_ofNat, gs_neg] ; omega))⟩
    · have j5 := j1 rfl
      have v5 := v1 rfl
      exact ⟨sx_σi [(15, (.ofNat 0, [(14, .negSucc 2)])), (18, (.ofNat 1, [(18, .ofNat 1)]))] σ, gs_fix_of rfl hf0, gs_cnt_of rfl hc0 hn, gs_none rfl, gs_none rfl, gs_none rfl, gs_none rfl, (fun _ => (gs_some rfl).trans (by (simp only [sx_ev, sx_evl, gs_ofNat, gs_neg] ; omega))), (fun e => nomatch e), gs_lo rfl, tv_pb_t_6_ftt a b c d e f g h hLB (gs_F hq0 hf0 hc0 (by (repeat' (first | exact bk_F0 | (refine bk_F1 ?_ ?_))) <;> (simp only [sx_ev, sx_evl, gs_ofNat, gs_neg] ; omega))) (by (repeat' (first | exact gs_t0 | (refine gs_t1 ?_ ?_))) <;> (simp only [sx_ev, sx_evl, gs_ofNat, gs_neg] ; omega))⟩
    · have j5 := j2 rfl
      have v5 := v2 rfl
      have y5 := y1 rfl
      exact ⟨sx_σi [(15, (.ofNat 0, [(13, .negSucc 2)])), (18, (.ofNat 1, [(18, .ofNat 1)]))] σ, gs_fix_of rfl hf0, gs_cnt_of rfl hc0 hn, gs_none rfl, gs_none rfl, gs_none rfl, gs_none rfl, (fun _ => (gs_some rfl).trans (by (simp only [sx_ev, sx_evl, gs_ofNat, gs_neg] ; omega))), (fun e => nomatch e), gs_lo rfl, tv_pb_t_6_tff a b c d e f g h hLB (gs_F hq0 hf0 hc0 (by (repeat' (first | exact bk_F0 | (refine bk_F1 ?_ ?_))) <;> (simp only [sx_ev, sx_evl, gs_ofNat, gs_neg] ; omega))) (by (repeat' (first | exact gs_t0 | (refine gs_t1 ?_ ?_))) <;> (simp only [sx_ev, sx_evl, gs_ofNat, gs_neg] ; omega))⟩
    · have j5 := j1 rfl
      have v5 := v2 rfl
      have y5 := y1 rfl
      exact ⟨sx_σi [(15, (.ofNat 0, [(13, .negSucc 2)])), (18, (.ofNat 1, [(18, .ofNat 1)]))] σ, gs_fix_of rfl hf0, gs_cnt_of rfl hc0 hn, gs_none rfl, gs_none rfl, gs_none rfl, gs_none rfl, (fun _ => (gs_some rfl).trans (by (simp only [sx_ev, sx_evl, gs_ofNat, gs_neg] ; omega))), (fun e => nomatch e), gs_lo rfl, tv_pb_t_6_tft a b c d e f g h hLB (gs_F hq0 hf0 hc0 (by (repeat' (first | exact bk_F0 | (refine bk_F1 ?_ ?_))) <;> (simp only [sx_ev, sx_evl, gs_ofNat, gs_neg] ; omega))) (by (repeat' (first | exact gs_t0 | (refine gs_t1 ?_ ?_))) <;> (simp only [sx_ev, sx_evl, gs_ofNat, gs_neg] ; omega))⟩
    · have j5 := j2 rfl
      have v5 := v1 rfl
      exact ⟨sx_σi [(15, (.ofNat 0, [(14, .negSucc 2)])), (18, (.ofNat 1, [(18, .ofNat 1)]))] σ, gs_fix_of rfl hf0, gs_cnt_of rfl hc0 hn, gs_none rfl, gs_none rfl, gs_none rfl, gs_none rfl, (fun _ => (gs_some rfl).trans (by (simp only [sx_ev, sx_evl, gs_ofNat, gs_neg] ; omega))), (fun e => nomatch e), gs_lo rfl, tv_pb_t_6_ttf a b c d e f g h hLB (gs_F hq0 hf0 hc0 (by (repeat' (first | exact bk_F0 | (refine bk_F1 ?_ ?_))) <;> (simp only [sx_ev, sx_evl, gs_ofNat, gs_neg] ; omega))) (by (repeat' (first | exact gs_t0 | (refine gs_t1 ?_ ?_))) <;> (simp only [sx_ev, sx_evl, gs_ofNat, gs_neg] ; omega))⟩
    · have j5 := j1 rfl
      have v5 := v1 rfl
      exact ⟨sx_σi [(15, (.ofNat 0, [(14, .negSucc 2)])), (18, (.ofNat 1, [(18, .ofNat 1)]))] σ, gs_fix_of rfl hf0, gs_cnt_of rfl hc0 hn, gs_none rfl, gs_none rfl, gs_none rfl, gs_none rfl, (fun _ => (gs_some rfl).trans (by (simp only [sx_ev, sx_evl, gs_ofNat, gs_neg] ; omega))), (fun e => nomatch e), gs_lo rfl, tv_pb_t_6_ttt a b c d e f g h hLB (gs_F hq0 hf0 hc0 (by (repeat' (first | exact bk_F0 | (refine bk_F1 ?_ ?_))) <;> (simp only [sx_ev, sx_evl, gs_ofNat, gs_neg] ; omega))) (by (repeat' (first | exact gs_t0 | (refine gs_t1 ?_ ?_))) <;> (simp only [sx_ev, sx_evl, gs_ofNat, gs_neg] ; omega))⟩
    · have j5 := j2 rfl
      have v5 := v2 rfl
      have y5 := y2 rfl
      exact ⟨sx_σi [(15, (.ofNat 0, [(32, .negSucc 2)])), (18, (.ofNat 1, [(18, .ofNat 1)]))] σ, gs_fix_of rfl hf0, gs_cnt_of rfl hc0 hn, gs_none rfl, gs_none rfl, gs_none rfl, gs_none rfl, (fun _ => (gs_some rfl).trans (by (simp only [sx_ev, sx_evl, gs_ofNat, gs_neg] ; omega))), (fun e => nomatch e), gs_lo rfl, tv_pb_t_7_fff a b c d e f g h hLB (gs_F hq0 hf0 hc0 (by (repeat' (first | exact bk_F0 | (refine bk_F1 ?_ ?_))) <;> (simp only [sx_ev, sx_evl, gs_ofNat, gs_neg] ; omega))) (by (repeat' (first | exact gs_t0 | (refine gs_t1 ?_ ?_))) <;> (simp only [sx_ev, sx_evl, gs_ofNat, gs_neg] ; omega))⟩
    · have j5 := j1 rfl
      have v5 := v2 rfl
      have y5 := y2 rfl
      exact ⟨sx_σi [(15, (.ofNat 0, [(32, .negSucc 2)])), (18, (.ofNat 1, [(18, .ofNat 1)]))] σ, gs_fix_of rfl hf0, gs_cnt_of rfl hc0 hn, gs_none rfl, gs_none rfl, gs_none rfl, gs_none rfl, (fun _ => (gs_some rfl).trans (by (simp only [sx_ev, sx_evl, gs_ofNat, gs_neg] ; omega))), (fun e => nomatch e), gs_lo rfl, tv_pb_t_7_fft a b c d e f g h hLB (gs_F hq0 hf0 hc0 (by (repeat' (first | exact bk_F0 | (refine bk_F1 ?_ ?_))) <;> (simp only [sx_ev, sx_evl, gs_ofNat, gs_neg] ; omega))) (by (repeat' (first | exact gs_t0 | (refine gs_t1 ?_ ?_))) <;> (simp only [sx_ev, sx_evl, gs_ofNat, gs_neg] ; omega))⟩
    · have j5 := j2 rfl
      have v5 := v1 rfl
      exact ⟨sx_σi [(15, (.ofNat 0, [(14, .negSucc 2)])), (18, (.ofNat 1, [(18, .ofNat 1)]))] σ, gs_fix_of rfl hf0, gs_cnt_of rfl hc0 hn, gs_none rfl, gs_none rfl, gs_none rfl, gs_none rfl, (fun _ => (gs_some rfl).trans (by (simp only [sx_ev, sx_evl, gs_ofNat, gs_neg] ; omega))), (fun e => nomatch e), gs_lo rfl, tv_pb_t_7_ftf a b c d e f g h hLB (gs_F hq0 hf0 hc0 (by (repeat' (first | exact bk_F0 | (refine bk_F1 ?_ ?_))) <;> (simp only [sx_ev, sx_evl, gs_ofNat, gs_neg] ; omega))) (by (repeat' (first | exact gs_t0 | (refine gs_t1 ?_ ?_))) <;> (simp only [sx_ev, sx_evl, gs_ofNat, gs_neg] ; omega))⟩
    · have j5 := j1 rfl
      have v5 := v1 rfl
      exact ⟨sx_σi [(15, (.ofNat 0, [(14, .negSucc 2)])), (18, (.ofNat 1, [(18, .ofNat 1)]))] σ, gs_fix_of rfl hf0, gs_cnt_of rfl hc0 hn, gs_none rfl, gs_none rfl, gs_none rfl, gs_none rfl, (fun _ => (gs_some rfl).trans (by (simp only [sx_ev, sx_evl, gs_ofNat, gs_neg] ; omega))), (fun e => nomatch e), gs_lo rfl, tv_pb_t_7_ftt a b c d e f g h hLB (gs_F hq0 hf0 hc0 (by (repeat' (first | exact bk_F0 | (refine bk_F1 ?_ ?_))) <;> (simp only [sx_ev, sx_evl, gs_ofNat, gs_neg] ; omega))) (by (repeat' (first | exact gs_t0 | (refine gs_t1 ?_ ?_))) <;> (simp only [sx_ev, sx_evl, gs_ofNat, gs_neg] ; omega))⟩
    · have j5 := j2 rfl
      have v5 := v2 rfl
      have y5 := y1 rfl
      exact ⟨sx_σi [(15, (.ofNat 0, [(13, .negSucc 2)])), (18, (.ofNat 1, [(18, .ofNat 1)]))] σ, gs_fix_of rfl hf0, gs_cnt_of rfl hc0 hn, gs_none rfl, gs_none rfl, gs_none rfl, gs_none rfl, (fun _ => (gs_some rfl).trans (by (simp only [sx_ev, sx_evl, gs_ofNat, gs_neg] ; omega))), (fun e => nomatch e), gs_lo rfl, tv_pb_t_7_tff a b c d e f g h hLB (gs_F hq0 hf0 hc0 (by (repeat' (first | exact bk_F0 | (refine bk_F1 ?_ ?_))) <;> (simp only [sx_ev, sx_evl, gs_ofNat, gs_neg] ; omega))) (by (repeat' (first | exact gs_t0 | (refine gs_t1 ?_ ?_))) <;> (simp only [sx_ev, sx_evl, gs_ofNat, gs_neg] ; omega))⟩
    · have j5 := j1 rfl
      have v5 := v2 rfl
      have y5 := y1 rfl
      exact ⟨sx_σi [(15, (.ofNat 0, [(13, .negSucc 2)])), (18, (.ofNat 1, [(18, .ofNat 1)]))] σ, gs_fix_of rfl hf0, gs_cnt_of rfl hc0 hn, gs_none rfl, gs_none rfl, gs_none rfl, gs_none rfl, (fun _ => (gs_some rfl).trans (by (simp only [sx_ev, sx_evl, gs_ofNat, gs_neg] ; omega))), (fun e => nomatch e), gs_lo rfl, tv_pb_t_7_tft a b c d e f g h hLB (gs_F hq0 hf0 hc0 (by (repeat' (first | exact bk_F0 | (refine bk_F1 ?_ ?_))) <;> (simp only [sx_ev, sx_evl, gs_ofNat, gs_neg] ; omega))) (by (repeat' (first | exact gs_t0 | (refine gs_t1 ?_ ?_))) <;> (simp only [sx_ev, sx_evl, gs_ofNat, gs_neg] ; omega))⟩
    · have j5 := j2 rfl
      have v5 := v1 rfl
      exact ⟨sx_σi [(15, (.ofNat 0, [(14, .negSucc 2)])), (18, (.ofNat 1, [(18, .ofNat 1)]))] σ, gs_fix_of rfl hf0, gs_cnt_of rfl hc0 hn, gs_none rfl, gs_none rfl, gs_none rfl, gs_none rfl, (fun _ => (gs_some rfl).trans (by (simp only [sx_ev, sx_evl, gs_ofNat, gs_neg] ; omega))), (fun e => nomatch e), gs_lo rfl, tv_pb_t_7_ttf a b c d e f g h hLB (gs_F hq0 hf0 hc0 (by (repeat' (first | exact bk_F0 | (refine bk_F1 ?_ ?_))) <;> (simp only [sx_ev, sx_evl, gs_ofNat, gs_neg] ; omega))) (by (repeat' (first | exact gs_t0 | (refine gs_t1 ?_ ?_))) <;> (simp only [sx_ev, sx_evl, gs_ofNat, gs_neg] ; omega))⟩
    · have j5 := j1 rfl
      have v5 := v1 rfl
      exact ⟨sx_σi [(15, (.ofNat 0, [(14, .negSucc 2)])), (18, (.ofNat 1, [(18, .ofNat 1)]))] σ, gs_fix_of rfl hf0, gs_cnt_of rfl hc0 hn, gs_none rfl, gs_none rfl, gs_none rfl, gs_none rfl, (fun _ => (gs_some rfl).trans (by (simp only [sx_ev, sx_evl, gs_ofNat, gs_neg] ; omega))), (fun e => nomatch e), gs_lo rfl, tv_pb_t_7_ttt a b c d e f g h hLB (gs_F hq0 hf0 hc0 (by (repeat' (first | exact bk_F0 | (refine bk_F1 ?_ ?_))) <;> (simp only [sx_ev, sx_evl, gs_ofNat, gs_neg] ; omega))) (by (repeat' (first | exact gs_t0 | (refine gs_t1 ?_ ?_))) <;> (simp only [sx_ev, sx_evl, gs_ofNat, gs_neg] ; omega))⟩
    · have j5 := j2 rfl
      have v5 := v2 rfl
      have y5 := y2 rfl
      exact ⟨sx_σi [(15, (.ofNat 0, [(32, .negSucc 1)])), (18, (.ofNat 1, [(18, .ofNat 1)]))] σ, gs_fix_of rfl hf0, gs_cnt_of rfl hc0 hn, gs_none rfl, gs_none rfl, gs_none rfl, gs_none rfl, (fun _ => (gs_some rfl).trans (by (simp only [sx_ev, sx_evl, gs_ofNat, gs_neg] ; omega))), (fun e => nomatch e), gs_lo rfl, tv_pb_t_8_fff a b c d e f g h hLB (gs_F hq0 hf0 hc0 (by (repeat' (first | exact bk_F0 | (refine bk_F1 ?_ ?_))) <;> (simp only [sx_ev, sx_evl, gs_ofNat, gs_neg] ; omega))) (by (repeat' (first | exact gs_t0 | (refine gs_t1 ?_ ?_))) <;> (simp only [sx_ev, sx_evl, gs_ofNat, gs_neg] ; omega))⟩
    · have j5 := j1 rfl
      have v5 := v2 rfl
      have y5 := y2 rfl
      exact ⟨sx_σi [(15, (.ofNat 0, [(32, .negSucc 1)])), (18, (.ofNat 1, [(18, .ofNat 1)]))] σ, gs_fix_of rfl hf0, gs_cnt_of rfl hc0 hn, gs_none rfl, gs_none rfl, gs_none rfl, gs_none rfl, (fun _ => (gs_some rfl).trans (by (simp only [sx_ev, sx_evl, gs_ofNat, gs_neg] ; omega))), (fun e => nomatch e), gs_lo rfl, tv_pb_t_8_fft a b c d e f g h hLB (gs_F hq0 hf0 hc0 (by (repeat' (first | exact bk_F0 | (refine bk_F1 ?_ ?_))) <;> (simp only [sx_ev, sx_evl, gs_ofNat, gs_neg] ; omega))) (by (repeat' (first | exact gs_t0 | (refine gs_t1 ?_ ?_))) <;> (simp only [sx_ev, sx_evl, gs_ofNat, gs_neg] ; omega))⟩
    · have j5 := j2 rfl
      have v5 := v1 rfl
      exact ⟨sx_σi [(15, (.ofNat 0, [(14, .negSucc 1)])), (18, (.ofNat 1, [(18, .ofNat 1)]))] σ, gs_fix_of rfl hf0, gs_cnt_of rfl hc0 hn, gs_none rfl, gs_none rfl, gs_none rfl, gs_none rfl, (fun _ => (gs_some rfl).trans (by (simp only [sx_ev, sx_evl, gs_ofNat, gs_neg] ; omega))), (fun e => nomatch e), gs_lo rfl, tv_pb_t_8_ftf a b c d e f g h hLB (gs_F hq0 hf0 hc0 (by (repeat' (first | exact bk_F0 | (refine bk_F1 ?_ ?_))) <;> (simp only [sx_ev, sx_evl, gs_ofNat, gs_neg] ; omega))) (by (repeat' (first | exact gs_t0 | (refine gs_t1 ?_ ?_))) <;> (simp only [sx_ev, sx_evl, gs_ofNat, gs_neg] ; omega))⟩
    · have j5 := j1 rfl
      have v5 := v1 rfl
      exact ⟨sx_σi [(15, (.ofNat 0, [(14, .negSucc 1)])), (18, (.ofNat 1, [(18, .ofNat 1)]))] σ, gs_fix_of rfl hf0, gs_cnt_of rfl hc0 hn, gs_none rfl, gs_none rfl, gs_none rfl, gs_none rfl, (fun _ => (gs_some rfl).trans (by (simp only [sx_ev, sx_evl, gs_ofNat, gs_neg] ; omega))), (fun e => nomatch e), gs_lo rfl, tv_pb_t_8_ftt a b c d e f g h hLB (gs_F hq0 hf0 hc0 (by (repeat' (first | exact bk_F0 | (refine bk_F1 ?_ ?_))) <;> (simp only [sx_ev, sx_evl, gs_ofNat, gs_neg] ; omega))) (by (repeat' (first | exact gs_t0 | (refine gs_t1 ?_ ?_))) <;> (simp only [sx_ev, sx_evl, gs_ofNat, gs_neg] ; omega))⟩
    · have j5 := j2 rfl
      have v5 := v2 rfl
      have y5 := y1 rfl
      exact ⟨sx_σi [(15, (.ofNat 0, [(13, .negSucc 1)])), (18, (.ofNat 1, [(18, .ofNat 1)]))] σ, gs_fix_of rfl hf0, gs_cnt_of rfl hc0 hn, gs_none rfl, gs_none rfl, gs_none rfl, gs_none rfl, (fun _ => (gs_some rfl).trans (by (simp only [sx_ev, sx_evl, gs_ofNat, gs_neg] ; omega))), (fun e => nomatch e), gs_lo rfl, tv_pb_t_8_tff a b c d e f g h hLB (gs_F hq0 hf0 hc0 (by (repeat' (first | exact bk_F0 | (refine bk_F1 ?_ ?_))) <;> (simp only [sx_ev, sx_evl, gs_ofNat, gs_neg] ; omega))) (by (repeat' (first | exact gs_t0 | (refine gs_t1 ?_ ?_))) <;> (simp only [sx_ev, sx_evl, gs_ofNat, gs_neg] ; omega))⟩
    · have j5 := j1 rfl
      have v5 := v2 rfl
      have y5 := y1 rfl
      exact ⟨sx_σi [(15, (.ofNat 0, [(13, .negSucc 1)])), (18, (.ofNat 1, [(18, .ofNat 1)]))] σ, gs_fix_of rfl hf0, gs_cnt_of rfl hc0 hn, gs_none rfl, gs_none rfl, gs_none rfl, gs_none rfl, (fun _ => (gs_some rfl).trans (by (simp only [sx_ev, sx_evl, gs_ofNat, gs_neg] ; omega))), (fun e => nomatch e), gs_lo rfl, tv_pb_t_8_tft a b c d e f g h hLB (gs_F hq0 hf0 hc0 (by (repeat' (first | exact bk_F0 | (refine bk_F1 ?_ ?_))) <;> (simp only [sx_ev, sx_evl, gs_ofNat, gs_neg] ; omega))) (by (repeat' (first | exact gs_t0 | (refine gs_t1 ?_ ?_))) <;> (simp only [sx_ev, sx_evl, gs_ofNat, gs_neg] ; omega))⟩
    · have j5 := j2 rfl
      have v5 := v1 rfl
      exact ⟨sx_σi [(15, (.ofNat 0, [(14, .negSucc 1)])), (18, (.ofNat 1, [(18, .ofNat 1)]))] σ, gs_fix_of rfl hf0, gs_cnt_of rfl hc0 hn, gs_none rfl, gs_none rfl, gs_none rfl, gs_none rfl, (fun _ => (gs_some rfl).trans (by (simp only [sx_ev, sx_evl, gs_ofNat, gs_neg] ; omega))), (fun e => nomatch e), gs_lo rfl, tv_pb_t_8_ttf a b c d e f g h hLB (gs_F hq0 hf0 hc0 (by (repeat' (first | exact bk_F0 | (refine bk_F1 ?_ ?_))) <;> (simp only [sx_ev, sx_evl, gs_ofNat, gs_neg] ; omega))) (by (repeat' (first | exact gs_t0 | (refine gs_t1 ?_ ?_))) <;> (simp only [sx_ev, sx_evl, gs_ofNat, gs_neg] ; omega))⟩
    · have j5 := j1 rfl
      have v5 := v1 rfl
      exact ⟨sx_σi [(15, (.ofNat 0, [(14, .negSucc 1)])), (18, (.ofNat 1, [(18, .ofNat 1)]))] σ, gs_fix_of rfl hf0, gs_cnt_of rfl hc0 hn, gs_none rfl, gs_none rfl, gs_none rfl, gs_none rfl, (fun _ => (gs_some rfl).trans (by (simp only [sx_ev, sx_evl, gs_ofNat, gs_neg] ; omega))), (fun e => nomatch e), gs_lo rfl, tv_pb_t_8_ttt a b c d e f g h hLB (gs_F hq0 hf0 hc0 (by (repeat' (first | exact bk_F0 | (refine bk_F1 ?_ ?_))) <;> (simp only [sx_ev, sx_evl, gs_ofNat, gs_neg] ; omega))) (by (repeat' (first | exact gs_t0 | (refine gs_t1 ?_ ?_))) <;> (simp only [sx_ev, sx_evl, gs_ofNat, gs_neg] ; omega))⟩
    · have j5 := j2 rfl
      have v5 := v2 rfl
      have y5 := y2 rfl
      exact ⟨sx_σi [(15, (.ofNat 0, [(32, .negSucc 1)])), (18, (.ofNat 1, [(18, .ofNat 1)]))] σ, gs_fix_of rfl hf0, gs_cnt_of rfl hc0 hn, gs_none rfl, gs_none rfl, gs_none rfl, gs_none rfl, (fun _ => (gs_some rfl).trans (by (simp only [sx_ev, sx_evl, gs_ofNat, gs_neg] ; omega))), (fun e => nomatch e), gs_lo rfl, tv_pb_t_9_fff a b c d e f g h hLB (gs_F hq0 hf0 hc0 (by (repeat' (first | exact bk_F0 | (refine bk_F1 ?_ ?_))) <;> (simp only [sx_ev, sx_evl, gs_ofNat, gs_neg] ; omega))) (by (repeat' (first | exact gs_t0 | (refine gs_t1 ?_ ?_))) <;> (simp only [sx_ev, sx_evl, gs_ofNat, gs_neg] ; omega))⟩
    · have j5 := j1 rfl
      have v5 := v2 rfl
      have y5 := y2 rfl
      exact ⟨sx_σi [(15, (.ofNat 0, [(32, .negSucc 1)])), (18, (.ofNat 1, [(18, .ofNat 1)]))] σ, gs_fix_of rfl hf0, gs_cnt_of rfl hc0 hn, gs_none rfl, gs_none rfl, gs_none rfl, gs_none rfl, (fun _ => (gs_some rfl).trans (by (simp only [sx_ev, sx_evl, gs_ofNat, gs_neg] ; omega))), (fun e => nomatch e), gs_lo rfl, tv_pb_t_9_fft a b c d e f g h hLB (gs_F hq0 hf0 hc0 (by (repeat' (first | exact bk_F0 | (refine bk_F1 ?_ ?_))) <;> (simp only [sx_ev, sx_evl, gs_ofNat, gs_neg] ; omega))) (by (repeat' (first | exact gs_t0 | (refine gs_t1 ?_ ?_))) <;> (simp only [sx_ev, sx_evl, gs_ofNat, gs_neg] ; omega))⟩
    · have j5 := j2 rfl
      have v5 := v1 rfl
      exact ⟨sx_σi [(15, (.ofNat 0, [(14, .negSucc 1)])), (18, (.ofNat 1, [(18, .ofNat 1)]))] σ, gs_fix_of rfl hf0, gs_cnt_of rfl hc0 hn, gs_none rfl, gs_none rfl, gs_none rfl, gs_none rfl, (fun _ => (gs_some rfl).trans (by (simp only [sx_ev, sx_evl, gs_ofNat, gs_neg] ; omega))), (fun e => nomatch e), gs_lo rfl, tv_pb_t_9_ftf a b c d e f g h hLB (gs_F hq0 hf0 hc0 (by (repeat' (first | exact bk_F0 | (refine bk_F1 ?_ ?_))) <;> (simp only [sx_ev, sx_evl, gs_ofNat, gs_neg] ; omega))) (by (repeat' (first | exact gs_t0 | (refine gs_t1 ?_ ?_))) <;> (simp only [sx_ev, sx_evl, gs_ofNat, gs_neg] ; omega))⟩
    · have j5 := j1 rfl
      have v5 := v1 rfl
      exact ⟨sx_σi [(15, (.ofNat 0, [(14, .negSucc 1)])), (18, (.ofNat 1, [(18, .ofNat 1)]))] σ, gs_fix_of rfl hf0, gs_cnt_of rfl hc0 hn, gs_none rfl, gs_none rfl, gs_none rfl, gs_none rfl, (fun _ => (gs_some rfl).trans (by (simp only [sx_ev, sx_evl, gs_ofNat, gs_neg] ; omega))), (fun e => nomatch e), gs_lo rfl, tv_pb_t_9_ftt a b c d e f g h hLB (gs_F hq0 hf0 hc0 (by (repeat' (first | exact bk_F0 | (refine bk_F1 ?_ ?_))) <;> (simp only [sx_ev, sx_evl, gs_ofNat, gs_neg] ; omega))) (by (repeat' (first | exact gs_t0 | (refine gs_t1 ?_ ?_))) <;> (simp only [sx_ev, sx_evl, gs_ofNat, gs_neg] ; omega))⟩
    · have j5 := j2 rfl
      have v5 := v2 rfl
      have y5 := y1 rfl
      exact ⟨sx_σi [(15, (.ofNat 0, [(13, .negSucc 1)])), (18, (.ofNat 1, [(18, .ofNat 1)]))] σ, gs_fix_of rfl hf0, gs_cnt_of rfl hc0 hn, gs_none rfl, gs_none rfl, gs_none rfl, gs_none rfl, (fun _ => (gs_some rfl).trans (by (simp only [sx_ev, sx_evl, gs_ofNat, gs_neg] ; omega))), (fun e => nomatch e), gs_lo rfl, tv_pb_t_9_tff a b c d e f g h hLB (gs_F hq0 hf0 hc0 (by (repeat' (first | exact bk_F0 | (refine bk_F1 ?_ ?_))) <;> (simp only [sx_ev, sx_evl, gs_ofNat, gs_neg] ; omega))) (by (repeat' (first | exact gs_t0 | (refine gs_t1 ?_ ?_))) <;> (simp only [sx_ev, sx_evl, gs_ofNat, gs_neg] ; omega))⟩
    · have j5 := j1 rfl
      have v5 := v2 rfl
      have y5 := y1 rfl
      exact ⟨sx_σi [(15, (.ofNat 0, [(13, .negSucc 1)])), (18, (.ofNat 1, [(18, .ofNat 1)]))] σ, gs_fix_of rfl hf0, gs_cnt_of rfl hc0 hn, gs_none rfl, gs_none rfl, gs_none rfl, gs_none rfl, (fun _ => (gs_some rfl).trans (by (simp only [sx_ev, sx_evl, gs_ofNat, gs_neg] ; omega))), (fun e => nomatch e), gs_lo rfl, tv_pb_t_9_tft a b c d e f g h hLB (gs_F hq0 hf0 hc0 (by (repeat' (first | exact bk_F0 | (refine bk_F1 ?_ ?_))) <;> (simp only [sx_ev, sx_evl, gs_ofNat, gs_neg] ; omega))) (by (repeat' (first | exact gs_t0 | (refine gs_t1 ?_ ?_))) <;> (simp only [sx_ev, sx_evl, gs_ofNat, gs_neg] ; omega))⟩
    · have j5 := j2 rfl
      have v5 := v1 rfl
      exact ⟨sx_σi [(15, (.ofNat 0, [(14, .negSucc 1)])), (18, (.ofNat 1, [(18, .ofNat 1)]))] σ, gs_fix_of rfl hf0, gs_cnt_of rfl hc0 hn, gs_none rfl, gs_none rfl, gs_none rfl, gs_none rfl, (fun _ => (gs_some rfl).trans (by (simp only [sx_ev, sx_evl, gs_ofNat, gs_neg] ; omega))), (fun e => nomatch e), gs_lo rfl, tv_pb_t_9_ttf a b c d e f g h hLB (gs_F hq0 hf0 hc0 (by (repeat' (first | exact bk_F0 | (refine bk_F1 ?_ ?_))) <;> (simp only [sx_ev, sx_evl, gs_ofNat, gs_neg] ; omega))) (by (repeat' (first | exact gs_t0 | (refine gs_t1 ?_ ?_))) <;> (simp only [sx_ev, sx_evl, gs_ofNat, gs_neg] ; omega))⟩
    · have j5 := j1 rfl
      have v5 := v1 rfl
      exact ⟨sx_σi [(15, (.ofNat 0, [(14, .negSucc 1)])), (18, (.ofNat 1, [(18, .ofNat 1)]))] σ, gs_fix_of rfl hf0, gs_cnt_of rfl hc0 hn, gs_none rfl, gs_none rfl, gs_none rfl, gs_none rfl, (fun _ => (gs_some rfl).trans (by (simp only [sx_ev, sx_evl, gs_ofNat, gs_neg] ; omega))), (fun e => nomatch e), gs_lo rfl, tv_pb_t_9_ttt a b c d e f g h hLB (gs_F hq0 hf0 hc0 (by (repeat' (first | exact bk_F0 | (refine bk_F1 ?_ ?_))) <;> (simp only [sx_ev, sx_evl, gs_ofNat, gs_neg] ; omega))) (by (repeat' (first | exact gs_t0 | (refine gs_t1 ?_ ?_))) <;> (simp only [sx_ev, sx_evl, gs_ofNat, gs_neg] ; omega))⟩
    · have j5 := j2 rfl
      have v5 := v2 rfl
      have y5 := y2 rfl
      exact ⟨sx_σi [(15, (.ofNat 0, [(32, .negSucc 0)])), (18, (.ofNat 1, [(18, .ofNat 1)]))] σ, gs_fix_of rfl hf0, gs_cnt_of rfl hc0 hn, gs_none rfl, gs_none rfl, gs_none rfl, gs_none rfl, (fun _ => (gs_some rfl).trans (by (simp only [sx_ev, sx_evl, gs_ofNat, gs_neg] ; omega))), (fun e => nomatch e), gs_lo rfl, tv_pb_t_10_fff a b c d e f g h hLB (gs_F hq0 hf0 hc0 (by (repeat' (first | exact bk_F0 | (refine bk_F1 ?_ ?_))) <;> (simp only [sx_ev, sx_evl, gs_ofNat, gs_neg] ; omega))) (by (repeat' (first | exact gs_t0 | (refine gs_t1 ?_ ?_))) <;> (simp only [sx_ev, sx_evl, gs_ofNat, gs_neg] ; omega))⟩
    · have j5 := j1 rfl
      have v5 := v2 rfl
      have y5 := y2 rfl
      exact ⟨sx_σi [(15, (.ofNat 0, [(32, .negSucc 0)])), (18, (.ofNat 1, [(18, .ofNat 1)]))] σ, gs_fix_of rfl hf0, gs_cnt_of rfl hc0 hn, gs_none rfl, gs_none rfl, gs_none rfl, gs_none rfl, (fun _ => (gs_some rfl).trans (by (simp only [sx_ev, sx_evl, gs_ofNat, gs_neg] ; omega))), (fun e => nomatch e), gs_lo rfl, tv_pb_t_10_fft a b c d e f g h hLB (gs_F hq0 hf0 hc0 (by (repeat' (first | exact bk_F0 | (refine bk_F1 ?_ ?_))) <;> (simp only [sx_ev, sx_evl, gs_ofNat, gs_neg] ; omega))) (by (repeat' (first | exact gs_t0 | (refine gs_t1 ?_ ?_))) <;> (simp only [sx_ev, sx_evl, gs_ofNat, gs_neg] ; omega))⟩
    · have j5 := j2 rfl
      have v5 := v1 rfl
      exact ⟨sx_σi [(15, (.ofNat 0, [(14, .negSucc 0)])), (18, (.ofNat 1, [(18, .ofNat 1)]))] σ, gs_fix_of rfl hf0, gs_cnt_of rfl hc0 hn, gs_none rfl, gs_none rfl, gs_none rfl, gs_none rfl, (fun _ => (gs_some rfl).trans (by (simp only [sx_ev, sx_evl, gs_ofNat, gs_neg] ; omega))), (fun e => nomatch e), gs_lo rfl, tv_pb_t_10_ftf a b c d e f g h hLB (gs_F hq0 hf0 hc0 (by (repeat' (first | exact bk_F0 | (refine bk_F1 ?_ ?_))) <;> (simp only [sx_ev, sx_evl, gs_ofNat, gs_neg] ; omega))) (by (repeat' (first | exact gs_t0 | (refine gs_t1 ?_ ?_))) <;> (simp only [sx_ev, sx_evl, gs_ofNat, gs_neg] ; omega))⟩
    · have j5 := j1 rfl
      have v5 := v1 rfl
      exact ⟨sx_σi [(15, (.ofNat 0, [(14, .negSucc 0)])), (18, (.ofNat 1, [(18, .ofNat 1)]))] σ, gs_fix_of rfl hf0, gs_cnt_of rfl hc0 hn, gs_none rfl, gs_none rfl, gs_none rfl, gs_none rfl, (fun _ => (gs_some rfl).trans (by (simp only [sx_ev, sx_evl, gs_ofNat, gs_neg] ; omega))), (fun e => nomatch e), gs_lo rfl, tv_pb_t_10_ftt a b c d e f g h hLB (gs_F hq0 hf0 hc0 (by (repeat' (first | exact bk_F0 | (refine bk_F1 ?_ ?_))) <;> (simp only [sx_ev, sx_evl, gs_ofNat, gs_neg] ; omega))) (by (repeat' (first | exact gs_t0 | (refine gs_t1 ?_ ?_))) <;> (simp only [sx_ev, sx_evl, gs_ofNat, gs_neg] ; omega))⟩
    · have j5 := j2 rfl
      have v5 := v2 rfl
      have y5 := y1 rfl
      exact ⟨sx_σi [(15, (.ofNat 0, [(13, .negSucc 0)])), (18, (.ofNat 1, [(18, .ofNat 1)]))] σ, gs_fix_of rfl hf0, gs_cnt_of rfl hc0 hn, gs_none rfl, gs_none rfl, gs_none rfl, gs_none rfl, (fun _ => (gs_some rfl).trans (by (simp only [sx_ev, sx_evl, gs_ofNat, gs_neg] ; omega))), (fun e => nomatch e), gs_lo rfl, tv_pb_t_10_tff a b c d e f g h hLB (gs_F hq0 hf0 hc0 (by (repeat' (first | exact bk_F0 | (refine bk_F1 ?_ ?_))) <;> (simp only [sx_ev, sx_evl, gs_ofNat, gs_neg] ; omega))) (by (repeat' (first | exact gs_t0 | (refine gs_t1 ?_ ?_))) <;> (simp only [sx_ev, sx_evl, gs_ofNat, gs_neg] ; omega))⟩
    · have j5 := j1 rfl
      have v5 := v2 rfl
      have y5 := y1 rfl
      exact ⟨sx_σi [(15, (.ofNat 0, [(13, .negSucc 0)])), (18, (.ofNat 1, [(18, .ofNat 1)]))] σ, gs_fix_of rfl hf0, gs_cnt_of rfl hc0 hn, gs_none rfl, gs_none rfl, gs_none rfl, gs_none rfl, (fun _ => (gs_some rfl).trans (by (simp only [sx_ev, sx_evl, gs_ofNat, gs_neg] ; omega))), (fun e => nomatch e), gs_lo rfl, tv_pb_t_10_tft a b c d e f g h hLB (gs_F hq0 hf0 hc0 (by (repeat' (first | exact bk_F0 | (refine bk_F1 ?_ ?_))) <;> (simp only [sx_ev, sx_evl, gs_ofNat, gs_neg] ; omega))) (by (repeat' (first | exact gs_t0 | (refine gs_t1 ?_ ?_))) <;> (simp only [sx_ev, sx_evl, gs_ofNat, gs_neg] ; omega))⟩
    · have j5 := j2 rfl
      have v5 := v1 rfl
      exact ⟨sx_σi [(15, (.ofNat 0, [(14, .negSucc 0)])), (18, (.ofNat 1, [(18, .ofNat 1)]))] σ, gs_fix_of rfl hf0, gs_cnt_of rfl hc0 hn, gs_none rfl, gs_none rfl, gs_none rfl, gs_none rfl, (fun _ => (gs_some rfl).trans (by (simp only [sx_ev, sx_evl, gs_ofNat, gs_neg] ; omega))), (fun e => nomatch e), gs_lo rfl, tv_pb_t_10_ttf a b c d e f g h hLB (gs_F hq0 hf0 hc0 (by (repeat' (first | exact bk_F0 | (refine bk_F1 ?_ ?_))) <;> (simp only [sx_ev, sx_evl, gs_ofNat, gs_neg] ; omega))) (by (repeat' (first | exact gs_t0 | (refine gs_t1 ?_ ?_))) <;> (simp only [sx_ev, sx_evl, gs_ofNat, gs_neg] ; omega))⟩
    · have j5 := j1 rfl
      have v5 := v1 rfl
      exact ⟨sx_σi [(15, (.ofNat 0, [(14, .negSucc 0)])), (18, (.ofNat 1, [(18, .ofNat 1)]))] σ, gs_fix_of rfl hf0, gs_cnt_of rfl hc0 hn, gs_none rfl, gs_none rfl, gs_none rfl, gs_none rfl, (fun _ => (gs_some rfl).trans (by (simp only [sx_ev, sx_evl, gs_ofNat, gs_neg] ; omega))), (fun e => nomatch e), gs_lo rfl, tv_pb_t_10_ttt a b c d e f g h hLB (gs_F hq0 hf0 hc0 (by (repeat' (first | exact bk_F0 | (refine bk_F1 ?_ ?_))) <;> (simp only [sx_ev, sx_evl, gs_ofNat, gs_neg] ; omega))) (by (repeat' (first | exact gs_t0 | (refine gs_t1 ?_ ?_))) <;> (simp only [sx_ev, sx_evl, gs_ofNat, gs_neg] ; omega))⟩
    · have j5 := j2 rfl
      have v5 := v2 rfl
      have y5 := y2 rfl
      exact ⟨sx_σi [(15, (.ofNat 0, [(32, .negSucc 0)])), (18, (.ofNat 1, [(18, .ofNat 1)]))] σ, gs_fix_of rfl hf0, gs_cnt_of rfl hc0 hn, gs_none rfl, gs_none rfl, gs_none rfl, gs_none rfl, (fun _ => (gs_some rfl).trans (by (simp only [sx_ev, sx_evl, gs_ofNat, gs_neg] ; omega))), (fun e => nomatch e), gs_lo rfl, tv_pb_t_11_fff a b c d e f g h hLB (gs_F hq0 hf0 hc0 (by (repeat' (first | exact bk_F0 | (refine bk_F1 ?_ ?_))) <;> (simp only [sx_ev, sx_evl, gs_ofNat, gs_neg] ; omega))) (by (repeat' (first | exact gs_t0 | (refine gs_t1 ?_ ?_))) <;> (simp only [sx_ev, sx_evl, gs_ofNat, gs_neg] ; omega))⟩
    · have j5 := j1 rfl
      have v5 := v2 rfl
      have y5 := y2 rfl
      exact ⟨sx_σi [(15, (.ofNat 0, [(32, .negSucc 0)])), (18, (.ofNat 1, [(18, .ofNat 1)]))] σ, gs_fix_of rfl hf0, gs_cnt_of rfl hc0 hn, gs_none rfl, gs_none rfl, gs_none rfl, gs_none rfl, (fun _ => (gs_some rfl).trans (by (simp only [sx_ev, sx_evl, gs_ofNat, gs_neg] ; omega))), (fun e => nomatch e), gs_lo rfl, tv_pb_t_11_fft a b c d e f g h hLB (gs_F hq0 hf0 hc0 (by (repeat' (first | exact bk_F0 | (refine bk_F1 ?_ ?_))) <;> (simp only [sx_ev, sx_evl, gs_ofNat, gs_neg] ; omega))) (by (repeat' (first | exact gs_t0 | (refine gs_t1 ?_ ?_))) <;> (simp only [sx_ev, sx_evl, gs_ofNat, gs_neg] ; omega))⟩
    · have j5 := j2 rfl
      have v5 := v1 rfl
      exact ⟨sx_σi [(15, (.ofNat 0, [(14, .negSucc 0)])), (18, (.ofNat 1, [(18, .ofNat 1)]))] σ, gs_fix_of rfl hf0, gs_cnt_of rfl hc0 hn, gs_none rfl, gs_none rfl, gs_none rfl, gs_none rfl, (fun _ => (gs_some rfl).trans (by (simp only [sx_ev, sx_evl, gs_ofNat, gs_neg] ; omega))), (fun e => nomatch e), gs_lo rfl, tv_pb_t_11_ftf a b c d e f g h hLB (gs_F hq0 hf0 hc0 (by (repeat' (first | exact bk_F0 | (refine bk_F1 ?_ ?_))) <;> (simp only [sx_ev, sx_evl, gs_ofNat, gs_neg] ; omega))) (by (repeat' (first | exact gs_t0 | (refine gs_t1 ?_ ?_))) <;> (simp only [sx_ev, sx_evl, gs_ofNat, gs_neg] ; omega))⟩
    · have j5 := j1 rfl
      have v5 := v1 rfl
      exact ⟨sx_σi [(15, (.ofNat 0, [(14, .negSucc 0)])), (18, (.ofNat 1, [(18, .ofNat 1)]))] σ, gs_fix_of rfl hf0, gs_cnt_of rfl hc0 hn, gs_none rfl, gs_none rfl, gs_none rfl, gs_none rfl, (fun _ => (gs_some rfl).trans (by (simp only [sx_ev, sx_evl, gs_ofNat, gs_neg] ; omega))), (fun e => nomatch e), gs_lo rfl, tv_pb_t_11_ftt a b c d e f g h hLB (gs_F hq0 hf0 hc0 (by (repeat' (first | exact bk_F0 | (refine bk_F1 ?_ ?_))) <;> (simp only [sx_ev, sx_evl, gs_ofNat, gs_neg] ; omega))) (by (repeat' (first | exact gs_t0 | (refine gs_t1 ?_ ?_))) <;> (simp only [sx_ev, sx_evl, gs_ofNat, gs_neg] ; omega))⟩
    · have j5 := j2 rfl
      have v5 := v2 rfl
      have y5 := y1 rfl
      exact ⟨sx_σi [(15, (.ofNat 0, [(13, .negSucc 0)])), (18, (.ofNat 1, [(18, .ofNat 1)]))] σ, gs_fix_of rfl hf0, gs_cnt_of rfl hc0 hn, gs_none rfl, gs_none rfl, gs_none rfl, gs_none rfl, (fun _ => (gs_some rfl).trans (by (simp only [sx_ev, sx_evl, gs_ofNat, gs_neg] ; omega))), (fun e => nomatch e), gs_lo rfl, tv_pb_t_11_tff a b c d e f g h hLB (gs_F hq0 hf0 hc0 (by (repeat' (first | exact bk_F0 | (refine bk_F1 ?_ ?_))) <;> (simp only [sx_ev, sx_evl, gs_ofNat, gs_neg] ; omega))) (by (repeat' (first | exact gs_t0 | (refine gs_t1 ?_ ?_))) <;> (simp only [sx_ev, sx_evl, gs_ofNat, gs_neg] ; omega))⟩
    · have j5 := j1 rfl
      have v5 := v2 rfl
      have y5 := y1 rfl
      exact ⟨sx_σi [(15, (.ofNat 0, [(13, .negSucc 0)])), (18, (.ofNat 1, [(18, .ofNat 1)]))] σ, gs_fix_of rfl hf0, gs_cnt_of rfl hc0 hn, gs_none rfl, gs_none rfl, gs_none rfl, gs_none rfl, (fun _ => (gs_some rfl).trans (by (simp only [sx_ev, sx_evl, gs_ofNat, gs_neg] ; omega))), (fun e => nomatch e), gs_lo rfl, tv_pb_t_11_tft a b c d e f g h hLB (gs_F hq0 hf0 hc0 (by (repeat' (first | exact bk_F0 | (refine bk_F1 ?_ ?_))) <;> (simp only [sx_ev, sx_evl, gs_ofNat, gs_neg] ; omega))) (by (repeat' (first | exact gs_t0 | (refine gs_t1 ?_ ?_))) <;> (simp only [sx_ev, sx_evl, gs_ofNat, gs_neg] ; omega))⟩
    · have j5 := j2 rfl
      have v5 := v1 rfl
      exact ⟨sx_σi [(15, (.ofNat 0, [(14, .negSucc 0)])), (18, (.ofNat 1, [(18, .ofNat 1)]))] σ, gs_fix_of rfl hf0, gs_cnt_of rfl hc0 hn, gs_none rfl, gs_none rfl, gs_none rfl, gs_none rfl, (fun _ => (gs_some rfl).trans (by (simp only [sx_ev, sx_evl, gs_ofNat, gs_neg] ; omega))), (fun e => nomatch e), gs_lo rfl, tv_pb_t_11_ttf a b c d e f g h hLB (gs_F hq0 hf0 hc0 (by (repeat' (first | exact bk_F0 | (refine bk_F1 ?_ ?_))) <;> (simp only [sx_ev, sx_evl, gs_ofNat, gs_neg] ; omega))) (by (repeat' (first | exact gs_t0 | (refine gs_t1 ?_ ?_))) <;> (simp only [sx_ev, sx_evl, gs_ofNat, gs_neg] ; omega))⟩
    · have j5 := j1 rfl
      have v5 := v1 rfl
      exact ⟨sx_σi [(15, (.ofNat 0, [(14, .negSucc 0)])), (18, (.ofNat 1, [(18, .ofNat 1)]))] σ, gs_fix_of rfl hf0, gs_cnt_of rfl hc0 hn, gs_none rfl, gs_none rfl, gs_none rfl, gs_none rfl, (fun _ => (gs_some rfl).trans (by (simp only [sx_ev, sx_evl, gs_ofNat, gs_neg] ; omega))), (fun e => nomatch e), gs_lo rfl, tv_pb_t_11_ttt a b c d e f g h hLB (gs_F hq0 hf0 hc0 (by (repeat' (first | exact bk_F0 | (refine bk_F1 ?_ ?_))) <;> (simp only [sx_ev, sx_evl, gs_ofNat, gs_neg] ; omega))) (by (repeat' (first | exact gs_t0 | (refine gs_t1 ?_ ?_))) <;> (simp only [sx_ev, sx_evl, gs_ofNat, gs_neg] ; omega))⟩
    · have j5 := j2 rfl
      have v5 := v2 rfl
      have y5 := y2 rfl
      exact ⟨sx_σi [(15, (.ofNat 0, [])), (18, (.ofNat 1, [(18, .ofNat 1)]))] σ, gs_fix_of rfl hf0, gs_cnt_of rfl hc0 hn, gs_none rfl, gs_none rfl, gs_none rfl, gs_none rfl, (fun _ => (gs_some rfl).trans (by (simp only [sx_ev, sx_evl, gs_ofNat, gs_neg] ; omega))), (fun e => nomatch e), gs_lo rfl, tv_pb_t_12_fff a b c d e f g h hLB (gs_F hq0 hf0 hc0 (by (repeat' (first | exact bk_F0 | (refine bk_F1 ?_ ?_))) <;> (simp only [sx_ev, sx_evl, gs_ofNat, gs_neg] ; omega))) (by (repeat' (first | exact gs_t0 | (refine gs_t1 ?_ ?_))) <;> (simp only [sx_ev, sx_evl, gs_ofNat, gs_neg] ; omega))⟩
    · have j5 := j1 rfl
      have v5 := v2 rfl
      have y5 := y2 rfl
      exact ⟨sx_σi [(15, (.ofNat 0, [])), (18, (.ofNat 1, [(18, .ofNat 1)]))] σ, gs_fix_of rfl hf0, gs_cnt_of rfl hc0 hn, gs_none rfl, gs_none rfl, gs_none rfl, gs_none rfl, (fun _ => (gs_some rfl).trans (by (simp only [sx_ev, sx_evl, gs_ofNat, gs_neg] ; omega))), (fun e => nomatch e), gs_lo rfl, tv_pb_t_12_fft a b c d e f g h hLB (gs_F hq0 hf0 hc0 (by (repeat' (first | exact bk_F0 | (refine bk_F1 ?_ ?_))) <;> (simp only [sx_ev, sx_evl, gs_ofNat, gs_neg] ; omega))) (by (repeat' (first | exact gs_t0 | (refine gs_t1 ?_ ?_))) <;> (simp only [sx_ev, sx_evl, gs_ofNat, gs_neg] ; omega))⟩
    · have j5 := j2 rfl
      have v5 := v1 rfl
      exact ⟨sx_σi [(15, (.ofNat 0, [])), (18, (.ofNat 1, [(18, .ofNat 1)]))] σ, gs_fix_of rfl hf0, gs_cnt_of rfl hc0 hn, gs_none rfl, gs_none rfl, gs_none rfl, gs_none rfl, (fun _ => (gs_some rfl).trans (by (simp only [sx_ev, sx_evl, gs_ofNat, gs_neg] ; omega))), (fun e => nomatch e), gs_lo rfl, tv_pb_t_12_ftf a b c d e f g h hLB (gs_F hq0 hf0 hc0 (by (repeat' (first | exact bk_F0 | (refine bk_F1 ?_ ?_))) <;> (simp only [sx_ev, sx_evl, gs_ofNat, gs_neg] ; omega))) (by (repeat' (first | exact gs_t0 | (refine gs_t1 ?_ ?_))) <;> (simp only [sx_ev, sx_evl, gs_ofNat, gs_neg] ; omega))⟩
    · have j5 := j1 rfl
      have v5 := v1 rfl
      exact ⟨sx_σi [(15, (.ofNat 0, [])), (18, (.ofNat 1, [(18, .ofNat 1)]))] σ, gs_fix_of rfl hf0, gs_cnt_of rfl hc0 hn, gs_none rfl, gs_none rfl, gs_none rfl, gs_none rfl, (fun _ => (gs_some rfl).trans (by (simp only [sx_ev, sx_evl, gs_ofNat, gs_neg] ; omega))), (fun e => nomatch e), gs_lo rfl, tv_pb_t_12_ftt a b c d e f g h hLB (gs_F hq0 hf0 hc0 (by (repeat' (first | exact bk_F0 | (refine bk_F1 ?_ ?_))) <;> (simp only [sx_ev, sx_evl, gs_ofNat, gs_neg] ; omega))) (by (repeat' (first | exact gs_t0 | (refine gs_t1 ?_ ?_))) <;> (simp only [sx_ev, sx_evl, gs_ofNat, gs_neg] ; omega))⟩
    · have j5 := j2 rfl
      have v5 := v2 rfl
      have y5 := y1 rfl
      exact ⟨sx_σi [(15, (.ofNat 0, [])), (18, (.ofNat 1, [(18, .ofNat 1)]))] σ, gs_fix_of rfl hf0, gs_cnt_of rfl hc0 hn, gs_none rfl, gs_none rfl, gs_none rfl, gs_none rfl, (fun _ => (gs_some rfl).trans (by (simp only [sx_ev, sx_evl, gs_ofNat, gs_neg] ; omega))), (fun e => nomatch e), gs_lo rfl, tv_pb_t_12_tff a b c d e f g h hLB (gs_F hq0 hf0 hc0 (by (repeat' (first | exact bk_F0 | (refine bk_F1 ?_ ?_))) <;> (simp only [sx_ev, sx_evl, gs_ofNat, gs_neg] ; omega))) (by (repeat' (first | exact gs_t0 | (refine gs_t1 ?_ ?_))) <;> (simp only [sx_ev, sx_evl, gs_ofNat, gs_neg] ; omega))⟩
    · have j5 := j1 rfl
      have v5 := v2 rfl
      have y5 := y1 rfl
      exact ⟨sx_σi [(15, (.ofNat 0, [])), (18, (.ofNat 1, [(18, .ofNat 1)]))] σ, gs_fix_of rfl hf0, gs_cnt_of rfl hc0 hn, gs_none rfl, gs_none rfl, gs_none rfl, gs_none rfl, (fun _ => (gs_some rfl).trans (by (simp only [sx_ev, sx_evl, gs_ofNat, gs_neg] ; omega))), (fun e => nomatch e), gs_lo rfl, tv_pb_t_12_tft a b c d e f g h hLB (gs_F hq0 hf0 hc0 (by (repeat' (first | exact bk_F0 | (refine bk_F1 ?_ ?_))) <;> (simp only [sx_ev, sx_evl, gs_ofNat, gs_neg] ; omega))) (by (repeat' (first | exact gs_t0 | (refine gs_t1 ?_ ?_))) <;> (simp only [sx_ev, sx_evl, gs_ofNat, gs_neg] ; omega))⟩
    · have j5 := j2 rfl
      have v5 := v1 rfl
      exact ⟨sx_σi [(15, (.ofNat 0, [])), (18, (.ofNat 1, [(18, .ofNat 1)]))] σ, gs_fix_of rfl hf0, gs_cnt_of rfl hc0 hn, gs_none rfl, gs_none rfl, gs_none rfl, gs_none rfl, (fun _ => (gs_some rfl).trans (by (simp only [sx_ev, sx_evl, gs_ofNat, gs_neg] ; omega))), (fun e => nomatch e), gs_lo rfl, tv_pb_t_12_ttf a b c d e f g h hLB (gs_F hq0 hf0 hc0 (by (repeat' (first | exact bk_F0 | (refine bk_F1 ?_ ?_))) <;> (simp only [sx_ev, sx_evl, gs_ofNat, gs_neg] ; omega))) (by (repeat' (first | exact gs_t0 | (refine gs_t1 ?_ ?_))) <;> (simp only [sx_ev, sx_evl, gs_ofNat, gs_neg] ; omega))⟩
    · have j5 := j1 rfl
      have v5 := v1 rfl
      exact ⟨sx_σi [(15, (.ofNat 0, [])), (18, (.ofNat 1, [(18, .ofNat 1)]))] σ, gs_fix_of rfl hf0, gs_cnt_of rfl hc0 hn, gs_none rfl, gs_none rfl, gs_none rfl, gs_none rfl, (fun _ => (gs_some rfl).trans (by (simp only [sx_ev, sx_evl, gs_ofNat, gs_neg] ; omega))), (fun e => nomatch e), gs_lo rfl, tv_pb_t_12_ttt a b c d e f g h hLB (gs_F hq0 hf0 hc0 (by (repeat' (first | exact bk_F0 | (refine bk_F1 ?_ ?_))) <;> (simp only [sx_ev, sx_evl, gs_ofNat, gs_neg] ; omega))) (by (repeat' (first | exact gs_t0 | (refine gs_t1 ?_ ?_))) <;> (simp only [sx_ev, sx_evl, gs_ofNat, gs_neg] ; omega))⟩
    · have j5 := j2 rfl
      have v5 := v2 rfl
      have y5 := y2 rfl
      exact ⟨sx_σi [(15, (.ofNat 0, [])), (18, (.ofNat 1, [(18, .ofNat 1)]))] σ, gs_fix_of rfl hf0, gs_cnt_of rfl hc0 hn, gs_none rfl, gs_none rfl, gs_none rfl, gs_none rfl, (fun _ => (gs_some rfl).trans (by (simp only [sx_ev, sx_evl, gs_ofNat, gs_neg] ; omega))), (fun e => nomatch e), gs_lo rfl, tv_pb_t_13_fff a b c d e f g h hLB (gs_F hq0 hf0 hc0 (by (repeat' (first | exact bk_F0 | (refine bk_F1 ?_ ?_))) <;> (simp only [sx_ev, sx_evl, gs_ofNat, gs_neg] ; omega))) (by (repeat' (first | exact gs_t0 | (refine gs_t1 ?_ ?_))) <;> (simp only [sx_ev, sx_evl, gs_ofNat, gs_neg] ; omega))⟩
    · have j5 := j1 rfl
      have v5 := v2 rfl
      have y5 := y2 rfl
      exact ⟨sx_σi [(15, (.ofNat 0, [])), (18, (.ofNat 1, [(18, .ofNat 1)]))] σ, gs_fix_of rfl hf0, gs_cnt_of rfl hc0 hn, gs_none rfl, gs_none rfl, gs_none rfl, gs_none rfl, (fun _ => (gs_some rfl).trans (by (simp only [sx_ev, sx_evl, gs_ofNat, gs_neg] ; omega))), (fun e => nomatch e), gs_lo rfl, tv_pb_t_13_fft a b c d e f g h hLB (gs_F hq0 hf0 hc0 (by (repeat' (first | exact bk_F0 | (refine bk_F1 ?_ ?_))) <;> (simp only [sx_ev, sx_evl, gs_ofNat, gs_neg] ; omega))) (by (repeat' (first | exact gs_t0 | (refine gs_t1 ?_ ?_))) <;> (simp only [sx_ev, sx_evl, gs_ofNat, gs_neg] ; omega))⟩
    · have j5 := j2 rfl
      have v5 := v1 rfl
      exact ⟨sx_σi [(15, (.ofNat 0, [])), (18, (.ofNat 1, [(18, .ofNat 1)]))] σ, gs_fix_of rfl hf0, gs_cnt_of rfl hc0 hn, gs_none rfl, gs_none rfl, gs_none rfl, gs_none rfl, (fun _ => (gs_some rfl).trans (by (simp only [sx_ev, sx_evl, gs_ofNat, gs_neg] ; omega))), (fun e => nomatch e), gs_lo rfl, tv_pb_t_13_ftf a b c d e f g h hLB (gs_F hq0 hf0 hc0 (by (repeat' (first | exact bk_F0 | (refine bk_F1 ?_ ?_))) <;> (simp only [sx_ev, sx_evl, gs_ofNat, gs_neg] ; omega))) (by (repeat' (first | exact gs_t0 | (refine gs_t1 ?_ ?_))) <;> (simp only [sx_ev, sx_evl, gs_ofNat, gs_neg] ; omega))⟩
    · have j5 := j1 rfl
      have v5 := v1 rfl
      exact ⟨sx_σi [(15, (.ofNat 0, [])), (18, (.ofNat 1, [(18, .ofNat 1)]))] σ, gs_fix_of rfl hf0, gs_cnt_of rfl hc0 hn, gs_none rfl, gs_none rfl, gs_none rfl, gs_none rfl, (fun _ => (gs_some rfl).trans (by (simp only [sx_ev, sx_evl, gs_ofNat, gs_neg] ; omega))), (fun e => nomatch e), gs_lo rfl, tv_pb_t_13_ftt a b c d e f g h hLB (gs_F hq0 hf0 hc0 (by (repeat' (first | exact bk_F0 | (refine bk_F1 ?_ ?_))) <;> (simp only [sx_ev, sx_evl, gs_ofNat, gs_neg] ; omega))) (by (repeat' (first | exact gs_t0 | (refine gs_t1 ?_ ?_))) <;> (simp only [sx_ev, sx_evl, gs_ofNat, gs_neg] ; omega))⟩
    · have j5 := j2 rfl
      have v5 := v2 rfl
      have y5 := y1 rfl
      exact ⟨sx_σi [(15, (.ofNat 0, [])), (18, (.ofNat 1, [(18, .ofNat 1)]))] σ, gs_fix_of rfl hf0, gs_cnt_of rfl hc0 hn, gs_none rfl, gs_none rfl, gs_none rfl, gs_none rfl, (fun _ => (gs_some rfl).trans (by (simp only [sx_ev, sx_evl, gs_ofNat, gs_neg] ; omega))), (fun e => nomatch e), gs_lo rfl, tv_pb_t_13_tff a b c d e f g h hLB (gs_F hq0 hf0 hc0 (by (repeat' (first | exact bk_F0 | (refine bk_F1 ?_ ?_))) <;> (simp only [sx_ev, sx_evl, gs_ofNat, gs_neg] ; omega))) (by (repeat' (first | exact gs_t0 | (refine gs_t1 ?_ ?_))) <;> (simp only [sx_ev, sx_evl, gs_ofNat, gs_neg] ; omega))⟩
    · have j5 := j1 rfl
      have v5 := v2 rfl
      have y5 := y1 rfl
      exact ⟨sx_σi [(15, (.ofNat 0, [])), (18, (.ofNat 1, [(18, .ofNat 1)]))] σ, gs_fix_of rfl hf0, gs_cnt_of rfl hc0 hn, gs_none rfl, gs_none rfl, gs_none rfl, gs_none rfl, (fun _ => (gs_some rfl).trans (by (simp only [sx_ev, sx_evl, gs_ofNat, gs_neg] ; omega))), (fun e => nomatch e), gs_lo rfl, tv_pb_t_13_tft a b c d e f g h hLB (gs_F hq0 hf0 hc0 (by (repeat' (first | exact bk_F0 | (refine bk_F1 ?_ ?_))) <;> (simp only [sx_ev, sx_evl, gs_ofNat, gs_neg] ; omega))) (by (repeat' (first | exact gs_t0 | (refine gs_t1 ?_ ?_))) <;> (simp only [sx_ev, sx_evl, gs_ofNat, gs_neg] ; omega))⟩
    · have j5 := j2 rfl
      have v5 := v1 rfl
      exact ⟨sx_σi [(15, (.ofNat 0, [])), (18, (.ofNat 1, [(18, .ofNat 1)]))] σ, gs_fix_of rfl hf0, gs_cnt_of rfl hc0 hn, gs_none rfl, gs_none rfl, gs_none rfl, gs_none rfl, (fun _ => (gs_some rfl).trans (by (simp only [sx_ev, sx_evl, gs_ofNat, gs_neg] ; omega))), (fun e => nomatch e), gs_lo rfl, tv_pb_t_13_ttf a b c d e f g h hLB (gs_F hq0 hf0 hc0 (by (repeat' (first | exact bk_F0 | (refine bk_F1 ?_ ?_))) <;> (simp only [sx_ev, sx_evl, gs_ofNat, gs_neg] ; omega))) (by (repeat' (first | exact gs_t0 | (refine gs_t1 ?_ ?_))) <;> (simp only [sx_ev, sx_evl, gs_ofNat, gs_neg] ; omega))⟩
    · have j5 := j1 rfl
      have v5 := v1 rfl
      exact ⟨sx_σi [(15, (.ofNat 0, [])), (18, (.ofNat 1, [(18, .ofNat 1)]))] σ, gs_fix_of rfl hf0, gs_cnt_of rfl hc0 hn, gs_none rfl, gs_none rfl, gs_none rfl, gs_none rfl, (fun _ => (gs_some rfl).trans (by (simp only [sx_ev, sx_evl, gs_ofNat, gs_neg] ; omega))), (fun e => nomatch e), gs_lo rfl, tv_pb_t_13_ttt a b c d e f g h hLB (gs_F hq0 hf0 hc0 (by (repeat' (first | exact bk_F0 | (refine bk_F1 ?_ ?_))) <;> (simp only [sx_ev, sx_evl, gs_ofNat, gs_neg] ; omega))) (by (repeat' (first | exact gs_t0 | (refine gs_t1 ?_ ?_))) <;> (simp only [sx_ev, sx_evl, gs_ofNat, gs_neg] ; omega))⟩
    · have j5 := j2 rfl
      have v5 := v2 rfl
      have y5 := y2 rfl
      exact ⟨sx_σi [(15, (.ofNat 0, [(32, .ofNat 1)])), (18, (.ofNat 1, [(18, .ofNat 1)]))] σ, gs_fix_of rfl hf0, gs_cnt_of rfl hc0 hn, gs_none rfl, gs_none rfl, gs_none rfl, gs_none rfl, (fun _ => (gs_some rfl).trans (by (simp only [sx_ev, sx_evl, gs_ofNat, gs_neg] ; omega))), (fun e => nomatch e), gs_lo rfl, tv_pb_t_14_fff a b c d e f g h hLB (gs_F hq0 hf0 hc0 (by (repeat' (first | exact bk_F0 | (refine bk_F1 ?_ ?_))) <;> (simp only [sx_ev, sx_evl, gs_ofNat, gs_neg] ; omega))) (by (repeat' (first | exact gs_t0 | (refine gs_t1 ?_ ?_))) <;> (simp only [sx_ev, sx_evl, gs_ofNat, gs_neg] ; omega))⟩
    · have j5 := j1 rfl
      have v5 := v2 rfl
      have y5 := y2 rfl
      exact ⟨sx_σi [(15, (.ofNat 0, [(32, .ofNat 1)])), (18, (.ofNat 1, [(18, .ofNat 1)]))] σ, gs_fix_of rfl hf0, gs_cnt_of rfl hc0 hn, gs_none rfl, gs_none rfl, gs_none rfl, gs_none rfl, (fun _ => (gs_some rfl).trans (by (simp only [sx_ev, sx_evl, gs_ofNat, gs_neg] ; omega))), (fun e => nomatch e), gs_lo rfl, tv_pb_t_14_fft a b c d e f g h hLB (gs_F hq0 hf0 hc0 (by (repeat' (first | exact bk_F0 | (refine bk_F1 ?_ ?_))) <;> (simp only [sx_ev, sx_evl, gs_ofNat, gs_neg] ; omega))) (by (repeat' (first | exact gs_t0 | (refine gs_t1 ?_ ?_))) <;> (simp only [sx_ev, sx_evl, gs_ofNat, gs_neg] ; omega))⟩
    · have j5 := j2 rfl
      have v5 := v1 rfl
      exact ⟨sx_σi [(15, (.ofNat 0, [(14, .ofNat 1)])), (18, (.ofNat 1, [(18, .ofNat 1)]))] σ, gs_fix_of rfl hf0, gs_cnt_of rfl hc0 hn, gs_none rfl, gs_none rfl, gs_none rfl, gs_none rfl, (fun _ => (gs_some rfl).trans (by (simp only [sx_ev, sx_evl, gs_ofNat, gs_neg] ; omega))), (fun e => nomatch e), gs_lo rfl, tv_pb_t_14_ftf a b c d e f g h hLB (gs_F hq0 hf0 hc0 (by (repeat' (first | exact bk_F0 | (refine bk_F1 ?_ ?_))) <;> (simp only [sx_ev, sx_evl, gs_ofNat, gs_neg] ; omega))) (by (repeat' (first | exact gs_t0 | (refine gs_t1 ?_ ?_))) <;> (simp only [sx_ev, sx_evl, gs_ofNat, gs_neg] ; omega))⟩
    · have j5 := j1 rfl
      have v5 := v1 rfl
      exact ⟨sx_σi [(15, (.ofNat 0, [(14, .ofNat 1)])), (18, (.ofNat 1, [(18, .ofNat 1)]))] σ, gs_fix_of rfl hf0, gs_cnt_of rfl hc0 hn, gs_none rfl, gs_none rfl, gs_none rfl, gs_none rfl, (fun _ => (gs_some rfl).trans (by (simp only [sx_ev, sx_evl, gs_ofNat, gs_neg] ; omega))), (fun e => nomatch e), gs_lo rfl, tv_pb_t_14_ftt a b c d e f g h hLB (gs_F hq0 hf0 hc0 (by (repeat' (first | exact bk_F0 | (refine bk_F1 ?_ ?_))) <;> (simp only [sx_ev, sx_evl, gs_ofNat, gs_neg] ; omega))) (by (repeat' (first | exact gs_t0 | (refine gs_t1 ?_ ?_))) <;> (simp only [sx_ev, sx_evl, gs_ofNat, gs_neg] ; omega))⟩
    · have j5 := j2 rfl
      have v5 := v2 rfl
      have y5 := y1 rfl
      exact ⟨sx_σi [(15, (.ofNat 0, [(13, .ofNat 1)])), (18, (.ofNat 1, [(18, .ofNat 1)]))] σ, gs_fix_of rfl hf0, gs_cnt_of rfl hc0 hn, gs_none rfl, gs_none rfl, gs_none rfl, gs_none rfl, (fun _ => (gs_some rfl).trans (by (simp only [sx_ev, sx_evl, gs_ofNat, gs_neg] ; omega))), (fun e => nomatch e), gs_lo rfl, tv_pb_t_14_tff a b c d e f g h hLB (gs_F hq0 hf0 hc0 (by (repeat' (first | exact bk_F0 | (refine bk_F1 ?_ ?_))) <;> (simp only [sx_ev, sx_evl, gs_ofNat, gs_neg] ; omega))) (by (repeat' (first | exact gs_t0 | (refine gs_t1 ?_ ?_))) <;> (simp only [sx_ev, sx_evl, gs_ofNat, gs_neg] ; omega))⟩
    · have j5 := j1 rfl
      have v5 := v2 rfl
      have y5 := y1 rfl
      exact ⟨sx_σi [(15, (.ofNat 0, [(13, .ofNat 1)])), (18, (.ofNat 1, [(18, .ofNat 1)]))] σ, gs_fix_of rfl hf0, gs_cnt_of rfl hc0 hn, gs_none rfl, gs_none rfl, gs_none rfl, gs_none rfl, (fun _ => (gs_some rfl).trans (by (simp only [sx_ev, sx_evl, gs_ofNat, gs_neg] ; omega))), (fun e => nomatch e), gs_lo rfl, tv_pb_t_14_tft a b c d e f g h hLB (gs_F hq0 hf0 hc0 (by (repeat' (first | exact bk_F0 | (refine bk_F1 ?_ ?_))) <;> (simp only [sx_ev, sx_evl, gs_ofNat, gs_neg] ; omega))) (by (repeat' (first | exact gs_t0 | (refine gs_t1 ?_ ?_))) <;> (simp only [sx_ev, sx_evl, gs_ofNat, gs_neg] ; omega))⟩
    · have j5 := j2 rfl
      have v5 := v1 rfl
      exact ⟨sx_σi [(15, (.ofNat 0, [(14, .ofNat 1)])), (18, (.ofNat 1, [(18, .ofNat 1)]))] σ, gs_fix_of rfl hf0, gs_cnt_of rfl hc0 hn, gs_none rfl, gs_none rfl, gs_none rfl, gs_none rfl, (fun _ => (gs_some rfl).trans (by (simp only [sx_ev, sx_evl, gs_ofNat, gs_neg] ; omega))), (fun e => nomatch e), gs_lo rfl, tv_pb_t_14_ttf a b c d e f g h hLB (gs_F hq0 hf0 hc0 (by (repeat' (first | exact bk_F0 | (refine bk_F1 ?_ ?_))) <;> (simp only [sx_ev, sx_evl, gs_ofNat, gs_neg] ; omega))) (by (repeat' (first | exact gs_t0 | (refine gs_t1 ?_ ?_))) <;> (simp only [sx_ev, sx_evl, gs_ofNat, gs_neg] ; omega))⟩
    · have j5 := j1 rfl
      have v5 := v1 rfl
      exact ⟨sx_σi [(15, (.ofNat 0, [(14, .ofNat 1)])), (18, (.ofNat 1, [(18, .ofNat 1)]))] σ, gs_fix_of rfl hf0, gs_cnt_of rfl hc0 hn, gs_none rfl, gs_none rfl, gs_none rfl, gs_none rfl, (fun _ => (gs_some rfl).trans (by (simp only [sx_ev, sx_evl, gs_ofNat, gs_neg] ; omega))), (fun e => nomatch e), gs_lo rfl, tv_pb_t_14_ttt a b c d e f g h hLB (gs_F hq0 hf0 hc0 (by (repeat' (first | exact bk_F0 | (refine bk_F1 ?_ ?_))) <;> (simp only [sx_ev, sx_evl, gs_ofNat, gs_neg] ; omega))) (by (repeat' (first | exact gs_t0 | (refine gs_t1 ?_ ?_))) <;> (simp only [sx_ev, sx_evl, gs_ofNat, gs_neg] ; omega))⟩
    · have j5 := j2 rfl
      have v5 := v2 rfl
      have y5 := y2 rfl
      exact ⟨sx_σi [(15, (.ofNat 0, [(32, .ofNat 1)])), (18, (.ofNat 1, [(18, .ofNat 1)]))] σ, gs_fix_of rfl hf0, gs_cnt_of rfl hc0 hn, gs_none rfl, gs_none rfl, gs_none rfl, gs_none rfl, (fun _ => (gs_some rfl).trans (by (simp only [sx_ev, sx_evl, gs_ofNat, gs_neg] ; omega))), (fun e => nomatch e), gs_lo rfl, tv_pb_t_15_fff a b c d e f g h hLB (gs_F hq0 hf0 hc0 (by (repeat' (first | exact bk_F0 | (refine bk_F1 ?_ ?_))) <;> (simp only [sx_ev, sx_evl, gs_ofNat, gs_neg] ; omega))) (by (repeat' (first | exact gs_t0 | (refine gs_t1 ?_ ?_))) <;> (simp only [sx_ev, sx_evl, gs_ofNat, gs_neg] ; omega))⟩
    · have j5 := j1 rfl
      have v5 := v2 rfl
      have y5 := y2 rfl
      exact ⟨sx_σi [(15, (.ofNat 0, [(32, .ofNat 1)])), (18, (.ofNat 1, [(18, .ofNat 1)]))] σ, gs_fix_of rfl hf0, gs_cnt_of rfl hc0 hn, gs_none rfl, gs_none rfl, gs_none rfl, gs_none rfl, (fun _ => (gs_some rfl).trans (by (simp only [sx_ev, sx_evl, gs_ofNat, gs_neg] ; omega))), (fun e => nomatch e), gs_lo rfl, tv_pb_t_15_fft a b c d e f g h hLB (gs_F hq0 hf0 hc0 (by (repeat' (first | exact bk_F0 | (refine bk_F1 ?_ ?_))) <;> (simp only [sx_ev, sx_evl, gs_ofNat, gs_neg] ; omega))) (by (repeat' (first | exact gs_t0 | (refine gs_t1 ?_ ?_))) <;> (simp only [sx_ev, sx_evl, gs_ofNat, gs_neg] ; omega))⟩
    · have j5 := j2 rfl
      have v5 := v1 rfl
      exact ⟨sx_σi [(15, (.ofNat 0, [(14, .ofNat 1)])), (18, (.ofNat 1, [(18, .ofNat 1)]))] σ, gs_fix_of rfl hf0, gs_cnt_of rfl hc0 hn, gs_none rfl, gs_none rfl, gs_none rfl, gs_none rfl, (fun _ => (gs_some rfl).trans (by (simp only [sx_ev, sx_evl, gs_ofNat, gs_neg] ; omega))), (fun e => nomatch e), gs_lo rfl, tv_pb_t_15_ftf a b c d e f g h hLB (gs_F hq0 hf0 hc0 (by (repeat' (first | exact bk_F0 | (refine bk_F1 ?_ ?_))) <;> (simp only [sx_ev, sx_evl, gs_ofNat, gs_neg] ; omega))) (by (repeat' (first | exact gs_t0 | (refine gs_t1 ?_ ?_))) <;> (simp only [sx_ev, sx_evl, gs_ofNat, gs_neg] ; omega))⟩
    · have j5 := j1 rfl
      have v5 := v1 rfl
      exact ⟨sx_σi [(15, (.ofNat 0, [(14, .ofNat 1)])), (18, (.ofNat 1, [(18, .ofNat 1)]))] σ, gs_fix_of rfl hf0, gs_cnt_of rfl hc0 hn, gs_none rfl, gs_none rfl, gs_none rfl, gs_none rfl, (fun _ => (gs_some rfl).trans (by (simp only [sx_ev, sx_evl, gs_ofNat, gs_neg] ; omega))), (fun e => nomatch e), gs_lo rfl, tv_pb_t_15_ftt a b c d e f g h hLB (gs_F hq0 hf0 hc0 (by (repeat' (first | exact bk_F0 | (refine bk_F1 ?_ ?_))) <;> (simp only [sx_ev, sx_evl, gs_ofNat, gs_neg] ; omega))) (by (repeat' (first | exact gs_t0 | (refine gs_t1 ?_ ?_))) <;> (simp only [sx_ev, sx_evl, gs_ofNat, gs_neg] ; omega))⟩
    · have j5 := j2 rfl
      have v5 := v2 rfl
      have y5 := y1 rfl
      exact ⟨sx_σi [(15, (.ofNat 0, [(13, .ofNat 1)])), (18, (.ofNat 1, [(18, .ofNat 1)]))] σ, gs_fix_of rfl hf0, gs_cnt_of rfl hc0 hn, gs_none rfl, gs_none rfl, gs_none rfl, gs_none rfl, (fun _ => (gs_some rfl).trans (by (simp only [sx_ev, sx_evl, gs_ofNat, gs_neg] ; omega))), (fun e => nomatch e), gs_lo rfl, tv_pb_t_15_tff a b c d e f g h hLB (gs_F hq0 hf0 hc0 (by (repeat' (first | exact bk_F0 | (refine bk_F1 ?_ ?_))) <;> (simp only [sx_ev, sx_evl, gs_ofNat, gs_neg] ; omega))) (by (repeat' (first | exact gs_t0 | (refine gs_t1 ?_ ?_))) <;> (simp only [sx_ev, sx_evl, gs_ofNat, gs_neg] ; omega))⟩
    · have j5 := j1 rfl
      have v5 := v2 rfl
      have y5 := y1 rfl
      exact ⟨sx_σi [(15, (.ofNat 0, [(13, .ofNat 1)])), (18, (.ofNat 1, [(18, .ofNat 1)]))] σ, gs_fix_of rfl hf0, gs_cnt_of rfl hc0 hn, gs_none rfl, gs_none rfl, gs_none rfl, gs_none rfl, (fun _ => (gs_some rfl).trans (by (simp only [sx_ev, sx_evl, gs_ofNat, gs_neg] ; omega))), (fun e => nomatch e), gs_lo rfl, tv_pb_t_15_tft a b c d e f g h hLB (gs_F hq0 hf0 hc0 (by (repeat' (first | exact bk_F0 | (refine bk_F1 ?_ ?_))) <;> (simp only [sx_ev, sx_evl, gs_ofNat, gs_neg] ; omega))) (by (repeat' (first | exact gs_t0 | (refine gs_t1 ?_ ?_))) <;> (simp only [sx_ev, sx_evl, gs_ofNat, gs_neg] ; omega))⟩
    · have j5 := j2 rfl
      have v5 := v1 rfl
      exact ⟨sx_σi [(15, (.ofNat 0, [(14, .ofNat 1)])), (18, (.ofNat 1, [(18, .ofNat 1)]))] σ, gs_fix_of rfl hf0, gs_cnt_of rfl hc0 hn, gs_none rfl, gs_none rfl, gs_none rfl, gs_none rfl, (fun _ => (gs_some rfl).trans (by (simp only [sx_ev, sx_evl, gs_ofNat, gs_neg] ; omega))), (fun e => nomatch e), gs_lo rfl, tv_pb_t_15_ttf a b c d e f g h hLB (gs_F hq0 hf0 hc0 (by (repeat' (first | exact bk_F0 | (refine bk_F1 ?_ ?_))) <;> (simp only [sx_ev, sx_evl, gs_ofNat, gs_neg] ; omega))) (by (repeat' (first | exact gs_t0 | (refine gs_t1 ?_ ?_))) <;> (simp only [sx_ev, sx_evl, gs_ofNat, gs_neg] ; omega))⟩
    · have j5 := j1 rfl
      have v5 := v1 rfl
      exact ⟨sx_σi [(15, (.ofNat 0, [(14, .ofNat 1)])), (18, (.ofNat 1, [(18, .ofNat 1)]))] σ, gs_fix_of rfl hf0, gs_cnt_of rfl hc0 hn, gs_none rfl, gs_none rfl, gs_none rfl, gs_none rfl, (fun _ => (gs_some rfl).trans (by (simp only [sx_ev, sx_evl, gs_ofNat, gs_neg] ; omega))), (fun e => nomatch e), gs_lo rfl, tv_pb_t_15_ttt a b c d e f g h hLB (gs_F hq0 hf0 hc0 (by (repeat' (first | exact bk_F0 | (refine bk_F1 ?_ ?_))) <;> (simp only [sx_ev, sx_evl, gs_ofNat, gs_neg] ; omega))) (by (repeat' (first | exact gs_t0 | (refine gs_t1 ?_ ?_))) <;> (simp only [sx_ev, sx_evl, gs_ofNat, gs_neg] ; omega))⟩
    · have j5 := j2 rfl
      have v5 := v2 rfl
      have y5 := y2 rfl
      exact ⟨sx_σi [(15, (.ofNat 0, [(32, .ofNat 2)])), (18, (.ofNat 1, [(18, .ofNat 1)]))] σ, gs_fix_of rfl hf0, gs_cnt_of rfl hc0 hn, gs_none rfl, gs_none rfl, gs_none rfl, gs_none rfl, (fun _ => (gs_some rfl).trans (by (simp only [sx_ev, sx_evl, gs_ofNat, gs_neg] ; omega))), (fun e => nomatch e), gs_lo rfl, tv_pb_t_16_fff a b c d e f g h hLB (gs_F hq0 hf0 hc0 (by (repeat' (first | exact bk_F0 | (refine bk_F1 ?_ ?_))) <;> (simp only [sx_ev, sx_evl, gs_ofNat, gs_neg] ; omega))) (by (repeat' (first | exact gs_t0 | (refine gs_t1 ?_ ?_))) <;> (simp only [sx_ev, sx_evl, gs_ofNat, gs_neg] ; omega))⟩
    · have j5 := j1 rfl
      have v5 := v2 rfl
      have y5 := y2 rfl
      exact ⟨sx_σi [(15, (.ofNat 0, [(32, .ofNat 2)])), (18, (.ofNat 1, [(18, .ofNat 1)]))] σ, gs_fix_of rfl hf0, gs_cnt_of rfl hc0 hn, gs_none rfl, gs_none rfl, gs_none rfl, gs_none rfl, (fun _ => (gs_some rfl).trans (by (simp only [sx_ev, sx_evl, gs_ofNat, gs_neg] ; omega))), (fun e => nomatch e), gs_lo rfl, tv_pb_t_16_fft a b c d e f g h hLB (gs_F hq0 hf0 hc0 (by (repeat' (first | exact bk_F0 | (refine bk_F1 ?_ ?_))) <;> (simp only [sx_ev, sx_evl, gs_ofNat, gs_neg] ; omega))) (by (repeat' (first | exact gs_t0 | (refine gs_t1 ?_ ?_))) <;> (simp only [sx_ev, sx_evl, gs_ofNat, gs_neg] ; omega))⟩
    · have j5 := j2 rfl
      have v5 := v1 rfl
      exact ⟨sx_σi [(15, (.ofNat 0, [(14, .ofNat 2)])), (18, (.ofNat 1, [(18, .ofNat 1)]))] σ, gs_fix_of rfl hf0, gs_cnt_of rfl hc0 hn, gs_none rfl, gs_none rfl, gs_none rfl, gs_none rfl, (fun _ => (gs_some rfl).trans (by (simp only [sx_ev, sx_evl, gs_ofNat, gs_neg] ; omega))), (fun e => nomatch e), gs_lo rfl, tv_pb_t_16_ftf a b c d e f g h hLB (gs_F hq0 hf0 hc0 (by (repeat' (first | exact bk_F0 | (refine bk_F1 ?_ ?_))) <;> (simp only [sx_ev, sx_evl, gs_ofNat, gs_neg] ; omega))) (by (repeat' (first | exact gs_t0 | (refine gs_t1 ?_ ?_))) <;> (simp only [sx_ev, sx_evl, gs_ofNat, gs_neg] ; omega))⟩
    · have j5 := j1 rfl
      have v5 := v1 rfl
      exact ⟨sx_σi [(15, (.ofNat 0, [(14, .ofNat 2)])), (18, (.ofNat 1, [(18, .ofNat 1)]))] σ, gs_fix_of rfl hf0, gs_cnt_of rfl hc0 hn, gs_none rfl, gs_none rfl, gs_none rfl, gs_none rfl, (fun _ => (gs_some rfl).trans (by (simp only [sx_ev, sx_evl, gs_ofNat, gs_neg] ; omega))), (fun e => nomatch e), gs_lo rfl, tv_pb_t_16_ftt a b c d e f g h hLB (gs_F hq0 hf0 hc0 (by (repeat' (first | exact bk_F0 | (refine bk_F1 ?_ ?_))) <;> (simp only [sx_ev, sx_evl, gs_ofNat, gs_neg] ; omega))) (by (repeat' (first | exact gs_t0 | (refine gs_t1 ?_ ?_))) <;> (simp only [sx_ev, sx_evl, gs_ofNat, gs_neg] ; omega))⟩
    · have j5 := j2 rfl
      have v5 := v2 rfl
      have y5 := y1 rfl
      exact ⟨sx_σi [(15, (.ofNat 0, [(13, .ofNat 2)])), (18, (.ofNat 1, [(18, .ofNat 1)]))] σ, gs_fix_of rfl hf0, gs_cnt_of rfl hc0 hn, gs_none rfl, gs_none rfl, gs_none rfl, gs_none rfl, (fun _ => (gs_some rfl).trans (by (simp only [sx_ev, sx_evl, gs_ofNat, gs_neg] ; omega))), (fun e => nomatch e), gs_lo rfl, tv_pb_t_16_tff a b c d e f g h hLB (gs_F hq0 hf0 hc0 (by (repeat' (first | exact bk_F0 | (refine bk_F1 ?_ ?_))) <;> (simp only [sx_ev, sx_evl, gs_ofNat, gs_neg] ; omega))) (by (repeat' (first | exact gs_t0 | (refine gs_t1 ?_ ?_))) <;> (simp only [sx_ev, sx_evl, gs_ofNat, gs_neg] ; omega))⟩
    · have j5 := j1 rfl
      have v5 := v2 rfl
      have y5 := y1 rfl
      exact ⟨sx_σi [(15, (.ofNat 0, [(13, .ofNat 2)])), (18, (.ofNat 1, [(18, .ofNat 1)]))] σ, gs_fix_of rfl hf0, gs_cnt_of rfl hc0 hn, gs_none rfl, gs_none rfl, gs_none rfl, gs_none rfl, (fun _ => (gs_some rfl).trans (by (simp only [sx_ev, sx_evl, gs_ofNat, gs_neg] ; omega))), (fun e => nomatch e), gs_lo rfl, tv_pb_t_16_tft a b c d e f g h hLB (gs_F hq0 hf0 hc0 (by (repeat' (first | exact bk_F0 | (refine bk_F1 ?_ ?_))) <;> (simp only [sx_ev, sx_evl, gs_ofNat, gs_neg] ; omega))) (by (repeat' (first | exact gs_t0 | (refine gs_t1 ?_ ?_))) <;> (simp only [sx_ev, sx_evl, gs_ofNat, gs_neg] ; omega))⟩
    · have j5 := j2 rfl
      have v5 := v1 rfl
      exact ⟨sx_σi [(15, (.ofNat 0, [(14, .ofNat 2)])), (18, (.ofNat 1, [(18, .ofNat 1)]))] σ, gs_fix_of rfl hf0, gs_cnt_of rfl hc0 hn, gs_none rfl, gs_none rfl, gs_none rfl, gs_none rfl, (fun _ => (gs_some rfl).trans (by (simp only [sx_ev, sx_evl, gs_ofNat, gs_neg] ; omega))), (fun e => nomatch e), gs_lo rfl, tv_pb_t_16_ttf a b c d e f g h hLB (gs_F hq0 hf0 hc0 (by (repeat' (first | exact bk_F0 | (refine bk_F1 ?_ ?_))) <;> (simp only [sx_ev, sx_evl, gs_ofNat, gs_neg] ; omega))) (by (repeat' (first | exact gs_t0 | (refine gs_t1 ?_ ?_))) <;> (simp only [sx_ev, sx_evl, gs_ofNat, gs_neg] ; omega))⟩
    · have j5 := j1 rfl
      have v5 := v1 rfl
      exact ⟨sx_σi [(15, (.ofNat 0, [(14, .ofNat 2)])), (18, (.ofNat 1, [(18, .ofNat 1)]))] σ, gs_fix_of rfl hf0, gs_cnt_of rfl hc0 hn, gs_none rfl, gs_none rfl, gs_none rfl, gs_none rfl, (fun _ => (gs_some rfl).trans (by (simp only [sx_ev, sx_evl, gs_ofNat, gs_neg] ; omega))), (fun e => nomatch e), gs_lo rfl, tv_pb_t_16_ttt a b c d e f g h hLB (gs_F hq0 hf0 hc0 (by (repeat' (first | exact bk_F0 | (refine bk_F1 ?_ ?_))) <;> (simp only [sx_ev, sx_evl, gs_ofNat, gs_neg] ; omega))) (by (repeat' (first | exact gs_t0 | (refine gs_t1 ?_ ?_))) <;> (simp only [sx_ev, sx_evl, gs_ofNat, gs_neg] ; omega))⟩
    · have j5 := j2 rfl
      have v5 := v2 rfl
      have y5 := y2 rfl
      exact ⟨sx_σi [(15, (.ofNat 0, [(32, .ofNat 2)])), (18, (.ofNat 1, [(18, .ofNat 1)]))] σ, gs_fix_of rfl hf0, gs_cnt_of rfl hc0 hn, gs_none rfl, gs_none rfl, gs_none rfl, gs_none rfl, (fun _ => (gs_some rfl).trans (by (simp only [sx_ev, sx_evl, gs_ofNat, gs_neg] ; omega))), (fun e => nomatch e), gs_lo rfl, tv_pb_t_17_fff a b c d e f g h hLB (gs_F hq0 hf0 hc0 (by (repeat' (first | exact bk_F0 | (refine bk_F1 ?_ ?_))) <;> (simp only [sx_ev, sx_evl, gs_ofNat, gs_neg] ; omega))) (by (repeat' (first | exact gs_t0 | (refine gs_t1 ?_ ?_))) <;> (simp only [sx_ev, sx_evl, gs_ofNat, gs_neg] ; omega))⟩
    · have j5 := j1 rfl
      have v5 := v2 rfl
      have y5 := y2 rfl
      exact ⟨sx_σi [(15, (.ofNat 0, [(32, .ofNat 2)])), (18, (.ofNat 1, [(18, .ofNat 1)]))] σ, gs_fix_of rfl hf0, gs_cnt_of rfl hc0 hn, gs_none rfl, gs_none rfl, gs_none rfl, gs_none rfl, (fun _ => (gs_some rfl).trans (by (simp only [sx_ev, sx_evl, gs_ofNat, gs_neg] ; omega))), (fun e => nomatch e), gs_lo rfl, tv_pb_t_17_fft a b c d e f g h hLB (gs_F hq0 hf0 hc0 (by (repeat' (first | exact bk_F0 | (refine bk_F1 ?_ ?_))) <;> (simp only [sx_ev, sx_evl, gs_ofNat, gs_neg] ; omega))) (by (repeat' (first | exact gs_t0 | (refine gs_t1 ?_ ?_))) <;> (simp only [sx_ev, sx_evl, gs_ofNat, gs_neg] ; omega))⟩
    · have j5 := j2 rfl
      have v5 := v1 rfl
      exact ⟨sx_σi [(15, (.ofNat 0, [(14, .ofNat 2)])), (18, (.ofNat 1, [(18, .ofNat 1)]))] σ, gs_fix_of rfl hf0, gs_cnt_of rfl hc0 hn, gs_none rfl, gs_none rfl, gs_none rfl, gs_none rfl, (fun _ => (gs_some rfl).trans (by (simp only [sx_ev, sx_evl, gs_ofNat, gs_neg] ; omega))), (fun e => nomatch e), gs_lo rfl, tv_pb_t_17_ftf a b c d e f g h hLB (gs_F hq0 hf0 hc0 (by (repeat' (first | exact bk_F0 | (refine bk_F1 ?_ ?_))) <;> (simp only [sx_ev, sx_evl, gs_ofNat, gs_neg] ; omega))) (by (repeat' (first | exact gs_t0 | (refine gs_t1 ?_ ?_))) <;> (simp only [sx_ev, sx_evl, gs_ofNat, gs_neg] ; omega))⟩
    · have j5 := j1 rfl
      have v5 := v1 rfl
      exact ⟨sx_σi [(15, (.ofNat 0, [(14, .ofNat 2)])), (18, (.ofNat 1, [(18, .ofNat 1)]))] σ, gs_fix_of rfl hf0, gs_cnt_of rfl hc0 hn, gs_none rfl, gs_none rfl, gs_none rfl, gs_none rfl, (fun _ => (gs_some rfl).trans (by (simp only [sx_ev, sx_evl, gs_ofNat, gs_neg] ; omega))), (fun e => nomatch e), gs_lo rfl, tv_pb_t_17_ftt a b c d e f g h hLB (gs_F hq0 hf0 hc0 (by (repeat' (first | exact bk_F0 | (refine bk_F1 ?_ ?_))) <;> (simp only [sx_ev, sx_evl, gs_ofNat, gs_neg] ; omega))) (by (repeat' (first | exact gs_t0 | (refine gs_t1 ?_ ?_))) <;> (simp only [sx_ev, sx_evl, gs_ofNat, gs_neg] ; omega))⟩
    · have j5 := j2 rfl
      have v5 := v2 rfl
      have y5 := y1 rfl
      exact ⟨sx_σi [(15, (.ofNat 0, [(13, .ofNat 2)])), (18, (.ofNat 1, [(18, .ofNat 1)]))] σ, gs_fix_of rfl hf0, gs_cnt_of rfl hc0 hn, gs_none rfl, gs_none rfl, gs_none rfl, gs_none rfl, (fun _ => (gs_some rfl).trans (by (simp only [sx_ev, sx_evl, gs_ofNat, gs_neg] ; omega))), (fun e => nomatch e), gs_lo rfl, tv_pb_t_17_tff a b c d e f g h hLB (gs_F hq0 hf0 hc0 (by (repeat' (first | exact bk_F0 | (refine bk_F1 ?_ ?_))) <;> (simp only [sx_ev, sx_evl, gs_ofNat, gs_neg] ; omega))) (by (repeat' (first | exact gs_t0 | (refine gs_t1 ?_ ?_))) <;> (simp only [sx_ev, sx_evl, gs_ofNat, gs_neg] ; omega))⟩
    · have j5 := j1 rfl
      have v5 := v2 rfl
      have y5 := y1 rfl
      exact ⟨sx_σi [(15, (.ofNat 0, [(13, .ofNat 2)])), (18, (.ofNat 1, [(18, .ofNat 1)]))] σ, gs_fix_of rfl hf0, gs_cnt_of rfl hc0 hn, gs_none rfl, gs_none rfl, gs_none rfl, gs_none rfl, (fun _ => (gs_some rfl).trans (by (simp only [sx_ev, sx_evl, gs_ofNat, gs_neg] ; omega))), (fun e => nomatch e), gs_lo rfl, tv_pb_t_17_tft a b c d e f g h hLB (gs_F hq0 hf0 hc0 (by (repeat' (first | exact bk_F0 | (refine bk_F1 ?_ ?_))) <;> (simp only [sx_ev, sx_evl, gs_ofNat, gs_neg] ; omega))) (by (repeat' (first | exact gs_t0 | (refine gs_t1 ?_ ?_))) <;> (simp only [sx_ev, sx_evl, gs_ofNat, gs_neg] ; omega))⟩
    · have j5 := j2 rfl
      have v5 := v1 rfl
      exact ⟨sx_σi [(15, (.ofNat 0, [(14, .ofNat 2)])), (18, (.ofNat 1, [(18, .ofNat 1)]))] σ, gs_fix_of rfl hf0, gs_cnt_of rfl hc0 hn, gs_none rfl, gs_none rfl, gs_none rfl, gs_none rfl, (fun _ => (gs_some rfl).trans (by (simp only [sx_ev, sx_evl, gs_ofNat, gs_neg] ; omega))), (fun e => nomatch e), gs_lo rfl, tv_pb_t_17_ttf a b c d e f g h hLB (gs_F hq0 hf0 hc0 (by (repeat' (first | exact bk_F0 | (refine bk_F1 ?_ ?_))) <;> (simp only [sx_ev, sx_evl, gs_ofNat, gs_neg] ; omega))) (by (repeat' (first | exact gs_t0 | (refine gs_t1 ?_ ?_))) <;> (simp only [sx_ev, sx_evl, gs_ofNat, gs_neg] ; omega))⟩
    · have j5 := j1 rfl
      have v5 := v1 rfl
      exact ⟨sx_σi [(15, (.ofNat 0, [(14, .ofNat 2)])), (18, (.ofNat 1, [(18, .ofNat 1)]))] σ, gs_fix_of rfl hf0, gs_cnt_of rfl hc0 hn, gs_none rfl, gs_none rfl, gs_none rfl, gs_none rfl, (fun _ => (gs_some rfl).trans (by (simp only [sx_ev, sx_evl, gs_ofNat, gs_neg] ; omega))), (fun e => nomatch e), gs_lo rfl, tv_pb_t_17_ttt a b c d e f g h hLB (gs_F hq0 hf0 hc0 (by (repeat' (first | exact bk_F0 | (refine bk_F1 ?_ ?_))) <;> (simp only [sx_ev, sx_evl, gs_ofNat, gs_neg] ; omega))) (by (repeat' (first | exact gs_t0 | (refine gs_t1 ?_ ?_))) <;> (simp only [sx_ev, sx_evl, gs_ofNat, gs_neg] ; omega))⟩
    · have j5 := j2 rfl
      have v5 := v2 rfl
      have y5 := y2 rfl
      exact ⟨sx_σi [(15, (.ofNat 0, [(32, .ofNat 3)])), (18, (.ofNat 1, [(18, .ofNat 1)]))] σ, gs_fix_of rfl hf0, gs_cnt_of rfl hc0 hn, gs_none rfl, gs_none rfl, gs_none rfl, gs_none rfl, (fun _ => (gs_some rfl).trans (by (simp only [sx_ev, sx_evl, gs_ofNat, gs_neg] ; omega))), (fun e => nomatch e), gs_lo rfl, tv_pb_t_18_fff a b c d e f g h hLB (gs_F hq0 hf0 hc0 (by (repeat' (first | exact bk_F0 | (refine bk_F1 ?_ ?_))) <;> (simp only [sx_ev, sx_evl, gs_ofNat, gs_neg] ; omega))) (by (repeat' (first | exact gs_t0 | (refine gs_t1 ?_ ?_))) <;> (simp only [sx_ev, sx_evl, gs_ofNat, gs_neg] ; omega))⟩
    · have j5 := j1 rfl
      have v5 := v2 rfl
      have y5 := y2 rfl
      exact ⟨sx_σi [(15, (.ofNat 0, [(32, .ofNat 3)])), (18, (.ofNat 1, [(18, .ofNat 1)]))] σ, gs_fix_of rfl hf0, gs_cnt_of rfl hc0 hn, gs_none rfl, gs_none rfl, gs_none rfl, gs_none rfl, (fun _ => (gs_some rfl).trans (by (simp only [sx_ev, sx_evl, gs_ofNat, gs_neg] ; omega))), (fun e => nomatch e), gs_lo rfl, tv_pb_t_18_fft a b c d e f g h hLB (gs_F hq0 hf0 hc0 (by (repeat' (first | exact bk_F0 | (refine bk_F1 ?_ ?_))) <;> (simp only [sx_ev, sx_evl, gs_ofNat, gs_neg] ; omega))) (by (repeat' (first | exact gs_t0 | (refine gs_t1 ?_ ?_))) <;> (simp only [sx_ev, sx_evl, gs_ofNat, gs_neg] ; omega))⟩
    · have j5 := j2 rfl
      have v5 := v1 rfl
      exact ⟨sx_σi [(15, (.ofNat 0, [(14, .ofNat 3)])), (18, (.ofNat 1, [(18, .ofNat 1)]))] σ, gs_fix_of rfl hf0, gs_cnt_of rfl hc0 hn, gs_none rfl, gs_none rfl, gs_none rfl, gs_none rfl, (fun _ => (gs_some rfl).trans (by (simp only [sx_ev, sx_evl, gs_ofNat, gs_neg] ; omega))), (fun e => nomatch e), gs_lo rfl, tv_pb_t_18_ftf a b c d e f g h hLB (gs_F hq0 hf0 hc0 (by (repeat' (first | exact bk_F0 | (refine bk_F1 ?_ ?_))) <;> (simp only [sx_ev, sx_evl, gs_ofNat, gs_neg] ; omega))) (by (repeat' (first | exact gs_t0 | (refine gs_t1 ?_ ?_))) <;> (simp only [sx_ev, sx_evl, gs_ofNat, gs_neg] ; omega))⟩
    · have j5 := j1 rfl
      have v5 := v1 rfl
      exact ⟨sx_σi [(15, (.ofNat 0, [(14, .ofNat 3)])), (18, (.ofNat 1, [(18, .ofNat 1)]))] σ, gs_fix_of rfl hf0, gs_cnt_of rfl hc0 hn, gs_none rfl, gs_none rfl, gs_none rfl, gs_none rfl, (fun _ => (gs_some rfl).trans (by (simp only [sx_ev, sx_evl, gs_ofNat, gs_neg] ; omega))), (fun e => nomatch e), gs_lo rfl, tv_pb_t_18_ftt a b c d e f g h hLB (gs_F hq0 hf0 hc0 (by (repeat' (first | exact bk_F0 | (refine bk_F1 ?_ ?_))) <;> (simp only [sx_ev, sx_evl, gs_ofNat, gs_neg] ; omega))) (by (repeat' (first | exact gs_t0 | (refine gs_t1 ?_ ?_))) <;> (simp only [sx_ev, sx_evl, gs_ofNat, gs_neg] ; omega))⟩
    · have j5 := j2 rfl
      have v5 := v2 rfl
      have y5 := y1 rfl
      exact ⟨sx_σi [(15, (.ofNat 0, [(13, .ofNat 3)])), (18, (.ofNat 1, [(18, .ofNat 1)]))] σ, gs_fix_of rfl hf0, gs_cnt_of rfl hc0 hn, gs_none rfl, gs_none rfl, gs_none rfl, gs_none rfl, (fun _ => (gs_some rfl).trans (by (simp only [sx_ev, sx_evl, gs_ofNat, gs_neg] ; omega))), (fun e => nomatch e), gs_lo rfl, tv_pb_t_18_tff a b c d e f g h hLB (gs_F hq0 hf0 hc0 (by (repeat' (first | exact bk_F0 | (refine bk_F1 ?_ ?_))) <;> (simp only [sx_ev, sx_evl, gs_ofNat, gs_neg] ; omega))) (by (repeat' (first | exact gs_t0 | (refine gs_t1 ?_ ?_))) <;> (simp only [sx_ev, sx_evl, gs_ofNat, gs_neg] ; omega))⟩
    · have j5 := j1 rfl
      have v5 := v2 rfl
      have y5 := y1 rfl
      exact ⟨sx_σi [(15, (.ofNat 0, [(13, .ofNat 3)])), (18, (.ofNat 1, [(18, .ofNat 1)]))] σ, gs_fix_of rfl hf0, gs_cnt_of rfl hc0 hn, gs_none rfl, gs_none rfl, gs_none rfl, gs_none rfl, (fun _ => (gs_some rfl).trans (by (simp only [sx_ev, sx_evl, gs_ofNat, gs_neg] ; omega))), (fun e => nomatch e), gs_lo rfl, tv_pb_t_18_tft a b c d e f g h hLB (gs_F hq0 hf0 hc0 (by (repeat' (first | exact bk_F0 | (refine bk_F1 ?_ ?_))) <;> (simp only [sx_ev, sx_evl, gs_ofNat, gs_neg] ; omega))) (by (repeat' (first | exact gs_t0 | (refine gs_t1 ?_ ?_))) <;> (simp only [sx_ev, sx_evl, gs_ofNat, gs_neg] ; omega))⟩
    · have j5 := j2 rfl
      have v5 := v1 rfl
      exact ⟨sx_σi [(15, (.ofNat 0, [(14, .ofNat 3)])), (18, (.ofNat 1, [(18, .ofNat 1)]))] σ, gs_fix_of rfl hf0, gs_cnt_of rfl hc0 hn, gs_none rfl, gs_none rfl, gs_none rfl, gs_none rfl, (fun _ => (gs_some rfl).trans (by (simp only [sx_ev, sx_evl, gs_ofNat, gs_neg] ; omega))), (fun e => nomatch e), gs_lo rfl, tv_pb_t_18_ttf a b c d e f g h hLB (gs_F hq0 hf0 hc0 (by (repeat' (first | exact bk_F0 | (refine bk_F1 ?_ ?_))) <;> (simp only [sx_ev, sx_evl, gs_ofNat, gs_neg] ; omega))) (by (repeat' (first | exact gs_t0 | (refine gs_t1 ?_ ?_))) <;> (simp only [sx_ev, sx_evl, gs_ofNat, gs_neg] ; omega))⟩
    · have j5 := j1 rfl
      have v5 := v1 rfl
      exact ⟨sx_σi [(15, (.ofNat 0, [(14, .ofNat 3)])), (18, (.ofNat 1, [(18, .ofNat 1)]))] σ, gs_fix_of rfl hf0, gs_cnt_of rfl hc0 hn, gs_none rfl, gs_none rfl, gs_none rfl, gs_none rfl, (fun _ => (gs_some rfl).trans (by (simp only [sx_ev, sx_evl, gs_ofNat, gs_neg] ; omega))), (fun e => nomatch e), gs_lo rfl, tv_pb_t_18_ttt a b c d e f g h hLB (gs_F hq0 hf0 hc0 (by (repeat' (first | exact bk_F0 | (refine bk_F1 ?_ ?_))) <;> (simp only [sx_ev, sx_evl, gs_ofNat, gs_neg] ; omega))) (by (repeat' (first | exact gs_t0 | (refine gs_t1 ?_ ?_))) <;> (simp only [sx_ev, sx_evl, gs_ofNat, gs_neg] ; omega))⟩
    · have j5 := j2 rfl
      have v5 := v2 rfl
      have y5 := y2 rfl
      exact ⟨sx_σi [(15, (.ofNat 0, [(32, .ofNat 3)])), (18, (.ofNat 1, [(18, .ofNat 1)]))] σ, gs_fix_of rfl hf0, gs_cnt_of rfl hc0 hn, gs_none rfl, gs_none rfl, gs_none rfl, gs_none rfl, (fun _ => (gs_some rfl).trans (by (simp only [sx_ev, sx_evl, gs_ofNat, gs_neg] ; omega))), (fun e => nomatch e), gs_lo rfl, tv_pb_t_19_fff a b c d e f g h hLB (gs_F hq0 hf0 hc0 (by (repeat' (first | exact bk_F0 | (refine bk_F1 ?_ ?_))) <;> (simp only [sx_ev, sx_evl, gs_ofNat, gs_neg] ; omega))) (by (repeat' (first | exact gs_t0 | (refine gs_t1 ?_ ?_))) <;> (simp only [sx_ev, sx_evl, gs_ofNat, gs_neg] ; omega))⟩
    · have j5 := j1 rfl
      have v5 := v2 rfl
      have y5 := y2 rfl
      exact ⟨sx_σi [(15, (.ofNat 0, [(32, .ofNat 3)])), (18, (.ofNat 1, [(18, .ofNat 1)]))] σ, gs_fix_of rfl hf0, gs_cnt_of rfl hc0 hn, gs_none rfl, gs_none rfl, gs_none rfl, gs_none rfl, (fun _ => (gs_some rfl).trans (by (simp only [sx_ev, sx_evl, gs_ofNat, gs_neg] ; omega))), (fun e => nomatch e), gs_lo rfl, tv_pb_t_19_fft a b c d e f g h hLB (gs_F hq0 hf0 hc0 (by (repeat' (first | exact bk_F0 | (refine bk_F1 ?_ ?_))) <;> (simp only [sx_ev, sx_evl, gs_ofNat, gs_neg] ; omega))) (by (repeat' (first | exact gs_t0 | (refine gs_t1 ?_ ?_))) <;> (simp only [sx_ev, sx_evl, gs_ofNat, gs_neg] ; omega))⟩
    · have j5 := j2 rfl
      have v5 := v1 rfl
      exact ⟨sx_σi [(15, (.ofNat 0, [(14, .ofNat 3)])), (18, (.ofNat 1, [(18, .ofNat 1)]))] σ, gs_fix_of rfl hf0, gs_cnt_of rfl hc0 hn, gs_none rfl, gs_none rfl, gs_none rfl, gs_none rfl, (fun _ => (gs_some rfl).trans (by (simp only [sx_ev, sx_evl, gs_ofNat, gs_neg] ; omega))), (fun e => nomatch e), gs_lo rfl, tv_pb_t_19_ftf a b c d e f g h hLB (gs_F hq0 hf0 hc0 (by (repeat' (first | exact bk_F0 | (refine bk_F1 ?_ ?_))) <;> (simp only [sx_ev, sx_evl, gs_ofNat, gs_neg] ; omega))) (by (repeat' (first | exact gs_t0 | (refine gs_t1 ?_ ?_))) <;> (simp only [sx_ev, sx_evl, gs_ofNat, gs_neg] ; omega))⟩
    · have j5 := j1 rfl
      have v5 := v1 rfl
      exact ⟨sx_σi [(15, (.ofNat 0, [(14, .ofNat 3)])), (18, (.ofNat 1, [(18, .ofNat 1)]))] σ, gs_fix_of rfl hf0, gs_cnt_of rfl hc0 hn, gs_none rfl, gs_none rfl, gs_none rfl, gs_none rfl, (fun _ => (gs_some rfl).trans (by (simp only [sx_ev, sx_evl, gs_ofNat, gs_neg] ; omega))), (fun e => nomatch e), gs_lo rfl, tv_pb_t_19_ftt a b c d e f g h hLB (gs_F hq0 hf0 hc0 (by (repeat' (first | exact bk_F0 | (refine bk_F1 ?_ ?_))) <;> (simp only [sx_ev, sx_evl, gs_ofNat, gs_neg] ; omega))) (by (repeat' (first | exact gs_t0 | (refine gs_t1 ?_ ?_))) <;> (simp only [sx_ev, sx_evl, gs_ofNat, gs_neg] ; omega))⟩
    · have j5 := j2 rfl
      have v5 := v2 rfl
      have y5 := y1 rfl
      exact ⟨sx_σi [(15, (.ofNat 0, [(13, .ofNat 3)])), (18, (.ofNat 1, [(18, .ofNat 1)]))] σ, gs_fix_of rfl hf0, gs_cnt_of rfl hc0 hn, gs_none rfl, gs_none rfl, gs_none rfl, gs_none rfl, (fun _ => (gs_some rfl).trans (by (simp only [sx_ev, sx_evl, gs_ofNat, gs_neg] ; omega))), (fun e => nomatch e), gs_lo rfl, tv_pb_t_19_tff a b c d e f g h hLB (gs_F hq0 hf0 hc0 (by (repeat' (first | exact bk_F0 | (refine bk_F1 ?_ ?_))) <;> (simp only [sx_ev, sx_evl, gs_ofNat, gs_neg] ; omega))) (by (repeat' (first | exact gs_t0 | (refine gs_t1 ?_ ?_))) <;> (simp only [sx_ev, sx_evl, gs_ofNat, gs_neg] ; omega))⟩
    · have j5 := j1 rfl
      have v5 := v2 rfl
      have y5 := y1 rfl
      exact ⟨sx_σi [(15, (.ofNat 0, [(13, .ofNat 3)])), (18, (.ofNat 1, [(18, .ofNat 1)]))] σ, gs_fix_of rfl hf0, gs_cnt_of rfl hc0 hn, gs_none rfl, gs_none rfl, gs_none rfl, gs_none rfl, (fun _ => (gs_some rfl).trans (by (simp only [sx_ev, sx_evl, gs_ofNat, gs_neg] ; omega))), (fun e => nomatch e), gs_lo rfl, tv_pb_t_19_tft a b c d e f g h hLB (gs_F hq0 hf0 hc0 (by (repeat' (first | exact bk_F0 | (refine bk_F1 ?_ ?_))) <;> (simp only [sx_ev, sx_evl, gs_ofNat, gs_neg] ; omega))) (by (repeat' (first | exact gs_t0 | (refine gs_t1 ?_ ?_))) <;> (simp only [sx_ev, sx_evl, gs_ofNat, gs_neg] ; omega))⟩
    · have j5 := j2 rfl
      have v5 := v1 rfl
      exact ⟨sx_σi [(15, (.ofNat 0, [(14, .ofNat 3)])), (18, (.ofNat 1, [(18, .ofNat 1)]))] σ, gs_fix_of rfl hf0, gs_cnt_of rfl hc0 hn, gs_none rfl, gs_none rfl, gs_none rfl, gs_none rfl, (fun _ => (gs_some rfl).trans (by (simp only [sx_ev, sx_evl, gs_ofNat, gs_neg] ; omega))), (fun e => nomatch e), gs_lo rfl, tv_pb_t_19_ttf a b c d e f g h hLB (gs_F hq0 hf0 hc0 (by (repeat' (first | exact bk_F0 | (refine bk_F1 ?_ ?_))) <;> (simp only [sx_ev, sx_evl, gs_ofNat, gs_neg] ; omega))) (by (repeat' (first | exact gs_t0 | (refine gs_t1 ?_ ?_))) <;> (simp only [sx_ev, sx_evl, gs_ofNat, gs_neg] ; omega))⟩
    · have j5 := j1 rfl
      have v5 := v1 rfl
      exact ⟨sx_σi [(15, (.ofNat 0, [(14, .ofNat 3)])), (18, (.ofNat 1, [(18, .ofNat 1)]))] σ, gs_fix_of rfl hf0, gs_cnt_of rfl hc0 hn, gs_none rfl, gs_none rfl, gs_none rfl, gs_none rfl, (fun _ => (gs_some rfl).trans (by (simp only [sx_ev, sx_evl, gs_ofNat, gs_neg] ; omega))), (fun e => nomatch e), gs_lo rfl, tv_pb_t_19_ttt a b c d e f g h hLB (gs_F hq0 hf0 hc0 (by (repeat' (first | exact bk_F0 | (refine bk_F1 ?_ ?_))) <;> (simp only [sx_ev, sx_evl, gs_ofNat, gs_neg] ; omega))) (by (repeat' (first | exact gs_t0 | (refine gs_t1 ?_ ?_))) <;> (simp only [sx_ev, sx_evl, gs_ofNat, gs_neg] ; omega))⟩
    · have j5 := j2 rfl
      have v5 := v2 rfl
      have y5 := y2 rfl
      exact ⟨sx_σi [(15, (.ofNat 0, [(32, .ofNat 4)])), (18, (.ofNat 1, [(18, .ofNat 1)]))] σ, gs_fix_of rfl hf0, gs_cnt_of rfl hc0 hn, gs_none rfl, gs_none rfl, gs_none rfl, gs_none rfl, (fun _ => (gs_some rfl).trans (by (simp only [sx_ev, sx_evl, gs_ofNat, gs_neg] ; omega))), (fun e => nomatch e), gs_lo rfl, tv_pb_t_20_fff a b c d e f g h hLB (gs_F hq0 hf0 hc0 (by (repeat' (first | exact bk_F0 | (refine bk_F1 ?_ ?_))) <;> (simp only [sx_ev, sx_evl, gs_ofNat, gs_neg] ; omega))) (by (repeat' (first | exact gs_t0 | (refine gs_t1 ?_ ?_))) <;> (simp only [sx_ev, sx_evl, gs_ofNat, gs_neg] ; omega))⟩
    · have j5 := j1 rfl
      have v5 := v2 rfl
      have y5 := y2 rfl
      exact ⟨sx_σi [(15, (.ofNat 0, [(32, .ofNat 4)])), (18, (.ofNat 1, [(18, .ofNat 1)]))] σ, gs_fix_of rfl hf0, gs_cnt_of rfl hc0 hn, gs_none rfl, gs_none rfl, gs_none rfl, gs_none rfl, (fun _ => (gs_some rfl).trans (by (simp only [sx_ev, sx_evl, gs_ofNat, gs_neg] ; omega))), (fun e => nomatch e), gs_lo rfl, tv_pb_t_20_fft a b c d e f g h hLB (gs_F hq0 hf0 hc0 (by (repeat' (first | exact bk_F0 | (refine bk_F1 ?_ ?_))) <;> (simp only [sx_ev, sx_evl, gs_ofNat, gs_neg] ; omega))) (by (repeat' (first | exact gs_t0 | (refine gs_t1 ?_ ?_))) <;> (simp only [sx_ev, sx_evl, gs_ofNat, gs_neg] ; omega))⟩
    · have j5 := j2 rfl
      have v5 := v1 rfl
      exact ⟨sx_σi [(15, (.ofNat 0, [(14, .ofNat 4)])), (18, (.ofNat 1, [(18, .ofNat 1)]))] σ, gs_fix_of rfl hf0, gs_cnt_of rfl hc0 hn, gs_none rfl, gs_none rfl, gs_none rfl, gs_none rfl, (fun _ => (gs_some rfl).trans (by (simp only [sx_ev, sx_evl, gs_ofNat, gs_neg] ; omega))), (fun e => nomatch e), gs_lo rfl, tv_pb_t_20_ftf a b c d e f g h hLB (gs_F hq0 hf0 hc0 (by (repeat' (first | exact bk_F0 | (refine bk_F1 ?_ ?_))) <;> (simp only [sx_ev, sx_evl, gs_ofNat, gs_neg] ; omega))) (by (repeat' (first | exact gs_t0 | (refine gs_t1 ?_ ?_))) <;> (simp only [sx_ev, sx_evl, gs_ofNat, gs_neg] ; omega))⟩
    · have j5 := j1 rfl
      have v5 := v1 rfl
      exact ⟨sx_σi [(15, (.ofNat 0, [(14, .ofNat 4)])), (18, (.ofNat 1, [(18, .ofNat 1)]))] σ, gs_fix_of rfl hf0, gs_cnt_of rfl hc0 hn, gs_none rfl, gs_none rfl, gs_none rfl, gs_none rfl, (fun _ => (gs_some rfl).trans (by (simp only [sx_ev, sx_evl, gs_ofNat, gs_neg] ; omega))), (fun e => nomatch e), gs_lo rfl, tv_pb_t_20_ftt a b c d e f g h hLB (gs_F hq0 hf0 hc0 (by (repeat' (first | exact bk_F0 | (refine bk_F1 ?_ ?_))) <;> (simp only [sx_ev, sx_evl, gs_ofNat, gs_neg] ; omega))) (by (repeat' (first | exact gs_t0 | (refine gs_t1 ?_ ?_))) <;> (simp only [sx_ev, sx_evl, gs_ofNat, gs_neg] ; omega))⟩
    · have j5 := j2 rfl
      have v5 := v2 rfl
      have y5 := y1 rfl
      exact ⟨sx_σi [(15, (.ofNat 0, [(13, .ofNat 4)])), (18, (.ofNat 1, [(18, .ofNat 1)]))] σ, gs_fix_of rfl hf0, gs_cnt_of rfl hc0 hn, gs_none rfl, gs_none rfl, gs_none rfl, gs_none rfl, (fun _ => (gs_some rfl).trans (by (simp only [sx_ev, sx_evl, gs_ofNat, gs_neg] ; omega))), (fun e => nomatch e), gs_lo rfl, tv_pb_t_20_tff a b c d e f g h hLB (gs_F hq0 hf0 hc0 (by (repeat' (first | exact bk_F0 | (refine bk_F1 ?_ ?_))) <;> (simp only [sx_ev, sx_evl, gs_ofNat, gs_neg] ; omega))) (by (repeat' (first | exact gs_t0 | (refine gs_t1 ?_ ?_))) <;> (simp only [sx_ev, sx_evl, gs_ofNat, gs_neg] ; omega))⟩
    · have j5 := j1 rfl
      have v5 := v2 rfl
      have y5 := y1 rfl
      exact ⟨sx_σi [(15, (.ofNat 0, [(13, .ofNat 4)])), (18, (.ofNat 1, [(18, .ofNat 1)]))] σ, gs_fix_of rfl hf0, gs_cnt_of rfl hc0 hn, gs_none rfl, gs_none rfl, gs_none rfl, gs_none rfl, (fun _ => (gs_some rfl).trans (by (simp only [sx_ev, sx_evl, gs_ofNat, gs_neg] ; omega))), (fun e => nomatch e), gs_lo rfl, tv_pb_t_20_tft a b c d e f g h hLB (gs_F hq0 hf0 hc0 (by (repeat' (first | exact bk_F0 | (refine bk_F1 ?_ ?_))) <;> (simp only [sx_ev, sx_evl, gs_ofNat, gs_neg] ; omega))) (by (repeat' (first | exact gs_t0 | (refine gs_t1 ?_ ?_))) <;> (simp only [sx_ev, sx_evl, gs_ofNat, gs_neg] ; omega))⟩
    · have j5 := j2 rfl
      have v5 := v1 rfl
      exact ⟨sx_σi [(15, (.ofNat 0, [(14, .ofNat 4)])), (18, (.ofNat 1, [(18, .ofNat 1)]))] σ, gs_fix_of rfl hf0, gs_cnt_of rfl hc0 hn, gs_none rfl, gs_none rfl, gs_none rfl, gs_none rfl, (fun _ => (gs_some rfl).trans (by (simp only [sx_ev, sx_evl, gs_ofNat, gs_neg] ; omega))), (fun e => nomatch e), gs_lo rfl, tv_pb_t_20_ttf a b c d e f g h hLB (gs_F hq0 hf0 hc0 (by (repeat' (first | exact bk_F0 | (refine bk_F1 ?_ ?_))) <;> (simp only [sx_ev, sx_evl, gs_ofNat, gs_neg] ; omega))) (by (repeat' (first | exact gs_t0 | (refine gs_t1 ?_ ?_))) <;> (simp only [sx_ev, sx_evl, gs_ofNat, gs_neg] ; omega))⟩
    · have j5 := j1 rfl
      have v5 := v1 rfl
      exact ⟨sx_σi [(15, (.ofNat 0, [(14, .ofNat 4)])), (18, (.ofNat 1, [(18, .ofNat 1)]))] σ, gs_fix_of rfl hf0, gs_cnt_of rfl hc0 hn, gs_none rfl, gs_none rfl, gs_none rfl, gs_none rfl, (fun _ => (gs_some rfl).trans (by (simp only [sx_ev, sx_evl, gs_ofNat, gs_neg] ; omega))), (fun e => nomatch e), gs_lo rfl, tv_pb_t_20_ttt a b c d e f g h hLB (gs_F hq0 hf0 hc0 (by (repeat' (first | exact bk_F0 | (refine bk_F1 ?_ ?_))) <;> (simp only [sx_ev, sx_evl, gs_ofNat, gs_neg] ; omega))) (by (repeat' (first | exact gs_t0 | (refine gs_t1 ?_ ?_))) <;> (simp only [sx_ev, sx_evl, gs_ofNat, gs_neg] ; omega))⟩
    · have j5 := j2 rfl
      have v5 := v2 rfl
      have y5 := y2 rfl
      exact ⟨sx_σi [(15, (.ofNat 0, [(32, .ofNat 4)])), (18, (.ofNat 1, [(18, .ofNat 1)]))] σ, gs_fix_of rfl hf0, gs_cnt_of rfl hc0 hn, gs_none rfl, gs_none rfl, gs_none rfl, gs_none rfl, (fun _ => (gs_some rfl).trans (by (simp only [sx_ev, sx_evl, gs_ofNat, gs_neg] ; omega))), (fun e => nomatch e), gs_lo rfl, tv_pb_t_21_fff a b c d e f g h hLB (gs_F hq0 hf0 hc0 (by (repeat' (first | exact bk_F0 | (refine bk_F1 ?_ ?_))) <;> (simp only [sx_ev, sx_evl, gs_ofNat, gs_neg] ; omega))) (by (repeat' (first | exact gs_t0 | (refine gs_t1 ?_ ?_))) <;> (simp only [sx_ev, sx_evl, gs_ofNat, gs_neg] ; omega))⟩
    · have j5 := j1 rfl
      have v5 := v2 rfl
      have y5 := y2 rfl
      exact ⟨sx_σi [(15, (.ofNat 0, [(32, .ofNat 4)])), (18, (.ofNat 1, [(18, .ofNat 1)]))] σ, gs_fix_of rfl hf0, gs_cnt_of rfl hc0 hn, gs_none rfl, gs_none rfl, gs_none rfl, gs_none rfl, (fun _ => (gs_some rfl).trans (by (simp only [sx_ev, sx_evl, gs_ofNat, gs_neg] ; omega))), (fun e => nomatch e), gs_lo rfl, tv_pb_t_21_fft a b c d e f g h hLB (gs_F hq0 hf0 hc0 (by (repeat' (first | exact bk_F0 | (refine bk_F1 ?_ ?_))) <;> (simp only [sx_ev, sx_evl, gs_ofNat, gs_neg] ; omega))) (by (repeat' (first | exact gs_t0 | (refine gs_t1 ?_ ?_))) <;> (simp only [sx_ev, sx_evl, gs_ofNat, gs_neg] ; omega))⟩
    · have j5 := j2 rfl
      have v5 := v1 rfl
      exact ⟨sx_σi [(15, (.ofNat 0, [(14, .ofNat 4)])), (18, (.ofNat 1, [(18, .ofNat 1)]))] σ, gs_fix_of rfl hf0, gs_cnt_of rfl hc0 hn, gs_none rfl, gs_none rfl, gs_none rfl, gs_none rfl, (fun _ => (gs_some rfl).trans (by (simp only [sx_ev, sx_evl, gs_ofNat, gs_neg] ; omega))), (fun e => nomatch e), gs_lo rfl, tv_pb_t_21_ftf a b c d e f g h hLB (gs_F hq0 hf0 hc0 (by (repeat' (first | exact bk_F0 | (refine bk_F1 ?_ ?_))) <;> (simp only [sx_ev, sx_evl, gs_ofNat, gs_neg] ; omega))) (by (repeat' (first | exact gs_t0 | (refine gs_t1 ?_ ?_))) <;> (simp only [sx_ev, sx_evl, gs_ofNat, gs_neg] ; omega))⟩
    · have j5 := j1 rfl
      have v5 := v1 rfl
      exact ⟨sx_σi [(15, (.ofNat 0, [(14, .ofNat 4)])), (18, (.ofNat 1, [(18, .ofNat 1)]))] σ, gs_fix_of rfl hf0, gs_cnt_of rfl hc0 hn, gs_none rfl, gs_none rfl, gs_none rfl, gs_none rfl, (fun _ => (gs_some rfl).trans (by (simp only [sx_ev, sx_evl, gs_ofNat, gs_neg] ; omega))), (fun e => nomatch e), gs_lo rfl, tv_pb_t_21_ftt a b c d e f g h hLB (gs_F hq0 hf0 hc0 (by (repeat' (first | exact bk_F0 | (refine bk_F1 ?_ ?_))) <;> (simp only [sx_ev, sx_evl, gs_ofNat, gs_neg] ; omega))) (by (repeat' (first | exact gs_t0 | (refine gs_t1 ?_ ?_))) <;> (simp only [sx_ev, sx_evl, gs_ofNat, gs_neg] ; omega))⟩
    · have j5 := j2 rfl
      have v5 := v2 rfl
      have y5 := y1 rfl
      exact ⟨sx_σi [(15, (.ofNat 0, [(13, .ofNat 4)])), (18, (.ofNat 1, [(18, .ofNat 1)]))] σ, gs_fix_of rfl hf0, gs_cnt_of rfl hc0 hn, gs_none rfl, gs_none rfl, gs_none rfl, gs_none rfl, (fun _ => (gs_some rfl).trans (by (simp only [sx_ev, sx_evl, gs_ofNat, gs_neg] ; omega))), (fun e => nomatch e), gs_lo rfl, tv_pb_t_21_tff a b c d e f g h hLB (gs_F hq0 hf0 hc0 (by (repeat' (first | exact bk_F0 | (refine bk_F1 ?_ ?_))) <;> (simp only [sx_ev, sx_evl, gs_ofNat, gs_neg] ; omega))) (by (repeat' (first | exact gs_t0 | (refine gs_t1 ?_ ?_))) <;> (simp only [sx_ev, sx_evl, gs_ofNat, gs_neg] ; omega))⟩
    · have j5 := j1 rfl
      have v5 := v2 rfl
      have y5 := y1 rfl
      exact ⟨sx_σi [(15, (.ofNat 0, [(13, .ofNat 4)])), (18, (.ofNat 1, [(18, .ofNat 1)]))] σ, gs_fix_of rfl hf0, gs_cnt_of rfl hc0 hn, gs_none rfl, gs_none rfl, gs_none rfl, gs_none rfl, (fun _ => (gs_some rfl).trans (by (simp only [sx_ev, sx_evl, gs_ofNat, gs_neg] ; omega))), (fun e => nomatch e), gs_lo rfl, tv_pb_t_21_tft a b c d e f g h hLB (gs_F hq0 hf0 hc0 (by (repeat' (first | exact bk_F0 | (refine bk_F1 ?_ ?_))) <;> (simp only [sx_ev, sx_evl, gs_ofNat, gs_neg] ; omega))) (by (repeat' (first | exact gs_t0 | (refine gs_t1 ?_ ?_))) <;> (simp only [sx_ev, sx_evl, gs_ofNat, gs_neg] ; omega))⟩
    · have j5 := j2 rfl
      have v5 := v1 rfl
      exact ⟨sx_σi [(15, (.ofNat 0, [(14, .ofNat 4)])), (18, (.ofNat 1, [(18, .ofNat 1)]))] σ, gs_fix_of rfl hf0, gs_cnt_of rfl hc0 hn, gs_none rfl, gs_none rfl, gs_none rfl, gs_none rfl, (fun _ => (gs_some rfl).trans (by (simp only [sx_ev, sx_evl, gs_ofNat, gs_neg] ; omega))), (fun e => nomatch e), gs_lo rfl, tv_pb_t_21_ttf a b c d e f g h hLB (gs_F hq0 hf0 hc0 (by (repeat' (first | exact bk_F0 | (refine bk_F1 ?_ ?_))) <;> (simp only [sx_ev, sx_evl, gs_ofNat, gs_neg] ; omega))) (by (repeat' (first | exact gs_t0 | (refine gs_t1 ?_ ?_))) <;> (simp only [sx_ev, sx_evl, gs_ofNat, gs_neg] ; omega))⟩
    · have j5 := j1 rfl
      have v5 := v1 rfl
      exact ⟨sx_σi [(15, (.ofNat 0, [(14, .ofNat 4)])), (18, (.ofNat 1, [(18, .ofNat 1)]))] σ, gs_fix_of rfl hf0, gs_cnt_of rfl hc0 hn, gs_none rfl, gs_none rfl, gs_none rfl, gs_none rfl, (fun _ => (gs_some rfl).trans (by (simp only [sx_ev, sx_evl, gs_ofNat, gs_neg] ; omega))), (fun e => nomatch e), gs_lo rfl, tv_pb_t_21_ttt a b c d e f g h hLB (gs_F hq0 hf0 hc0 (by (repeat' (first | exact bk_F0 | (refine bk_F1 ?_ ?_))) <;> (simp only [sx_ev, sx_evl, gs_ofNat, gs_neg] ; omega))) (by (repeat' (first | exact gs_t0 | (refine gs_t1 ?_ ?_))) <;> (simp only [sx_ev, sx_evl, gs_ofNat, gs_neg] ; omega))⟩
    · have j5 := j2 rfl
      have v5 := v2 rfl
      have y5 := y2 rfl
      exact ⟨sx_σi [(15, (.ofNat 0, [(32, .ofNat 5)])), (18, (.ofNat 1, [(18, .ofNat 1)]))] σ, gs_fix_of rfl hf0, gs_cnt_of rfl hc0 hn, gs_none rfl, gs_none rfl, gs_none rfl, gs_none rfl, (fun _ => (gs_some rfl).trans (by (simp only [sx_ev, sx_evl, gs_ofNat, gs_neg] ; omega))), (fun e => nomatch e), gs_lo rfl, tv_pb_t_22_fff a b c d e f g h hLB (gs_F hq0 hf0 hc0 (by (repeat' (first | exact bk_F0 | (refine bk_F1 ?_ ?_))) <;> (simp only [sx_ev, sx_evl, gs_ofNat, gs_neg] ; omega))) (by (repeat' (first | exact gs_t0 | (refine gs_t1 ?_ ?_))) <;> (simp only [sx_ev, sx_evl, gs_ofNat, gs_neg] ; omega))⟩
    · have j5 := j1 rfl
      have v5 := v2 rfl
      have y5 := y2 rfl
      exact ⟨sx_σi [(15, (.ofNat 0, [(32, .ofNat 5)])), (18, (.ofNat 1, [(18, .ofNat 1)]))] σ, gs_fix_of rfl hf0, gs_cnt_of rfl hc0 hn, gs_none rfl, gs_none rfl, gs_none rfl, gs_none rfl, (fun _ => (gs_some rfl).trans (by (simp only [sx_ev, sx_evl, gs_ofNat, gs_neg] ; omega))), (fun e => nomatch e), gs_lo rfl, tv_pb_t_22_fft a b c d e f g h hLB (gs_F hq0 hf0 hc0 (by (repeat' (first | exact bk_F0 | (refine bk_F1 ?_ ?_))) <;> (simp only [sx_ev, sx_evl, gs_ofNat, gs_neg] ; omega))) (by (repeat' (first | exact gs_t0 | (refine gs_t1 ?_ ?_))) <;> (simp only [sx_ev, sx_evl, gs_ofNat, gs_neg] ; omega))⟩
    · have j5 := j2 rfl
      have v5 := v1 rfl
      exact ⟨sx_σi [(15, (.ofNat 0, [(14, .ofNat 5)])), (18, (.ofNat 1, [(18, .ofNat 1)]))] σ, gs_fix_of rfl hf0, gs_cnt_of rfl hc0 hn, gs_none rfl, gs_none rfl, gs_none rfl, gs_none rfl, (fun _ => (gs_some rfl).trans (by (simp only [sx_ev, sx_evl, gs_ofNat, gs_neg] ; omega))), (fun e => nomatch e), gs_lo rfl, tv_pb_t_22_ftf a b c d e f g h hLB (gs_F hq0 hf0 hc0 (by (repeat' (first | exact bk_F0 | (refine bk_F1 ?_ ?_))) <;> (simp only [sx_ev, sx_evl, gs_ofNat, gs_neg] ; omega))) (by (repeat' (first | exact gs_t0 | (refine gs_t1 ?_ ?_))) <;> (simp only [sx_ev, sx_evl, gs_ofNat, gs_neg] ; omega))⟩
    · have j5 := j1 rfl
      have v5 := v1 rfl
      exact ⟨sx_σi [(15, (.ofNat 0, [(14, .ofNat 5)])), (18, (.ofNat 1, [(18, .ofNat 1)]))] σ, gs_fix_of rfl hf0, gs_cnt_of rfl hc0 hn, gs_none rfl, gs_none rfl, gs_none rfl, gs_none rfl, (fun _ => (gs_some rfl).trans (by (simp only [sx_ev, sx_evl, gs_ofNat, gs_neg] ; omega))), (fun e => nomatch e), gs_lo rfl, tv_pb_t_22_ftt a b c d e f g h hLB (gs_F hq0 hf0 hc0 (by (repeat' (first | exact bk_F0 | (refine bk_F1 ?_ ?_))) <;> (simp only [sx_ev, sx_evl, gs_ofNat, gs_neg] ; omega))) (by (repeat' (first | exact gs_t0 | (refine gs_t1 ?_ ?_))) <;> (simp only [sx_ev, sx_evl, gs_ofNat, gs_neg] ; omega))⟩
    · have j5 := j2 rfl
      have v5 := v2 rfl
      have y5 := y1 rfl
      exact ⟨sx_σi [(15, (.ofNat 0, [(13, .ofNat 5)])), (18, (.ofNat 1, [(18, .ofNat 1)]))] σ, gs_fix_of rfl hf0, gs_cnt_of rfl hc0 hn, gs_none rfl, gs_none rfl, gs_none rfl, gs_none rfl, (fun _ => (gs_some rfl).trans (by (simp only [sx_ev, sx_evl, gs_ofNat, gs_neg] ; omega))), (fun e => nomatch e), gs_lo rfl, tv_pb_t_22_tff a b c d e f g h hLB (gs_F hq0 hf0 hc0 (by (repeat' (first | exact bk_F0 | (refine bk_F1 ?_ ?_))) <;> (simp only [sx_ev, sx_evl, gs_ofNat, gs_neg] ; omega))) (by (repeat' (first | exact gs_t0 | (refine gs_t1 ?_ ?_))) <;> (simp only [sx_ev, sx_evl, gs_ofNat, gs_neg] ; omega))⟩
    · have j5 := j1 rfl
      have v5 := v2 rfl
      have y5 := y1 rfl
      exact ⟨sx_σi [(15, (.ofNat 0, [(13, .ofNat 5)])), (18, (.ofNat 1, [(18, .ofNat 1)]))] σ, gs_fix_of rfl hf0, gs_cnt_of rfl hc0 hn, gs_none rfl, gs_none rfl, gs_none rfl, gs_none rfl, (fun _ => (gs_some rfl).trans (by (simp only [sx_ev, sx_evl, gs_ofNat, gs_neg] ; omega))), (fun e => nomatch e), gs_lo rfl, tv_pb_t_22_tft a b c d e f g h hLB (gs_F hq0 hf0 hc0 (by (repeat' (first | exact bk_F0 | (refine bk_F1 ?_ ?_))) <;> (simp only [sx_ev, sx_evl, gs_ofNat, gs_neg] ; omega))) (by (repeat' (first | exact gs_t0 | (refine gs_t1 ?_ ?_))) <;> (simp only [sx_ev, sx_evl, gs_ofNat, gs_neg] ; omega))⟩
    · have j5 := j2 rfl
      have v5 := v1 rfl
      exact ⟨sx_σi [(15, (.ofNat 0, [(14, .ofNat 5)])), (18, (.ofNat 1, [(18, .ofNat 1)]))] σ, gs_fix_of rfl hf0, gs_cnt_of rfl hc0 hn, gs_none rfl, gs_none rfl, gs_none rfl, gs_none rfl, (fun _ => (gs_some rfl).trans (by (simp only [sx_ev, sx_evl, gs_ofNat, gs_neg] ; omega))), (fun e => nomatch e), gs_lo rfl, tv_pb_t_22_ttf a b c d e f g h hLB (gs_F hq0 hf0 hc0 (by (repeat' (first | exact bk_F0 | (refine bk_F1 ?_ ?_))) <;> (simp only [sx_ev, sx_evl, gs_ofNat, gs_neg] ; omega))) (by (repeat' (first | exact gs_t0 | (refine gs_t1 ?_ ?_))) <;> (simp only [sx_ev, sx_evl, gs_ofNat, gs_neg] ; omega))⟩
    · have j5 := j1 rfl
      have v5 := v1 rfl
      exact ⟨sx_σi [(15, (.ofNat 0, [(14, .ofNat 5)])), (18, (.ofNat 1, [(18, .ofNat 1)]))] σ, gs_fix_of rfl hf0, gs_cnt_of rfl hc0 hn, gs_none rfl, gs_none rfl, gs_none rfl, gs_none rfl, (fun _ => (gs_some rfl).trans (by (simp only [sx_ev, sx_evl, gs_ofNat, gs_neg] ; omega))), (fun e => nomatch e), gs_lo rfl, tv_pb_t_22_ttt a b c d e f g h hLB (gs_F hq0 hf0 hc0 (by (repeat' (first | exact bk_F0 | (refine bk_F1 ?_ ?_))) <;> (simp only [sx_ev, sx_evl, gs_ofNat, gs_neg] ; omega))) (by (repeat' (first | exact gs_t0 | (refine gs_t1 ?_ ?_))) <;> (simp only [sx_ev, sx_evl, gs_ofNat, gs_neg] ; omega))⟩
    · have j5 := j2 rfl
      have v5 := v2 rfl
      have y5 := y2 rfl
      exact ⟨sx_σi [(15, (.ofNat 0, [(32, .ofNat 5)])), (18, (.ofNat 1, [(18, .ofNat 1)]))] σ, gs_fix_of rfl hf0, gs_cnt_of rfl hc0 hn, gs_none rfl, gs_none rfl, gs_none rfl, gs_none rfl, (fun _ => (gs_some rfl).trans (by (simp only [sx_ev, sx_evl, gs_ofNat, gs_neg] ; omega))), (fun e => nomatch e), gs_lo rfl, tv_pb_t_23_fff a b c d e f g h hLB (gs_F hq0 hf0 hc0 (by (repeat' (first | exact bk_F0 | (refine bk_F1 ?_ ?_))) <;> (simp only [sx_ev, sx_evl, gs_ofNat, gs_neg] ; omega))) (by (repeat' (first | exact gs_t0 | (refine gs_t1 ?_ ?_))) <;> (simp only [sx_ev, sx_evl, gs_ofNat, gs_neg] ; omega))⟩
    · have j5 := j1 rfl
      have v5 := v2 rfl
      have y5 := y2 rfl
      exact ⟨sx_σi [(15, (.ofNat 0, [(32, .ofNat 5)])), (18, (.ofNat 1, [(18, .ofNat 1)]))] σ, gs_fix_of rfl hf0, gs_cnt_of rfl hc0 hn, gs_none rfl, gs_none rfl, gs_none rfl, gs_none rfl, (fun _ => (gs_some rfl).trans (by (simp only [sx_ev, sx_evl, gs_ofNat, gs_neg] ; omega))), (fun e => nomatch e), gs_lo rfl, tv_pb_t_23_fft a b c d e f g h hLB (gs_F hq0 hf0 hc0 (by (repeat' (first | exact bk_F0 | (refine bk_F1 ?_ ?_))) <;> (simp only [sx_ev, sx_evl, gs_ofNat, gs_neg] ; omega))) (by (repeat' (first | exact gs_t0 | (refine gs_t1 ?_ ?_))) <;> (simp only [sx_ev, sx_evl, gs_ofNat, gs_neg] ; omega))⟩
    · have j5 := j2 rfl
      have v5 := v1 rfl
      exact ⟨sx_σi [(15, (.ofNat 0, [(14, .ofNat 5)])), (18, (.ofNat 1, [(18, .ofNat 1)]))] σ, gs_fix_of rfl hf0, gs_cnt_of rfl hc0 hn, gs_none rfl, gs_none rfl, gs_none rfl, gs_none rfl, (fun _ => (gs_some rfl).trans (by (simp only [sx_ev, sx_evl, gs_ofNat, gs_neg] ; omega))), (fun e => nomatch e), gs_lo rfl, tv_pb_t_23_ftf a b c d e f g h hLB (gs_F hq0 hf0 hc0 (by (repeat' (first | exact bk_F0 | (refine bk_F1 ?_ ?_))) <;> (simp only [sx_ev, sx_evl, gs_ofNat, gs_neg] ; omega))) (by (repeat' (first | exact gs_t0 | (refine gs_t1 ?_ ?_))) <;> (simp only [sx_ev, sx_evl, gs_ofNat, gs_neg] ; omega))⟩
    · have j5 := j1 rfl
      have v5 := v1 rfl
      exact ⟨sx_σi [(15, (.ofNat 0, [(14, .ofNat 5)])), (18, (.ofNat 1, [(18, .ofNat 1)]))] σ, gs_fix_of rfl hf0, gs_cnt_of rfl hc0 hn, gs_none rfl, gs_none rfl, gs_none rfl, gs_none rfl, (fun _ => (gs_some rfl).trans (by (simp only [sx_ev, sx_evl, gs_ofNat, gs_neg] ; omega))), (fun e => nomatch e), gs_lo rfl, tv_pb_t_23_ftt a b c d e f g h hLB (gs_F hq0 hf0 hc0 (by (repeat' (first | exact bk_F0 | (refine bk_F1 ?_ ?_))) <;> (simp only [sx_ev, sx_evl, gs_ofNat, gs_neg] ; omega))) (by (repeat' (first | exact gs_t0 | (refine gs_t1 ?_ ?_))) <;> (simp only [sx_ev, sx_evl, gs_ofNat, gs_neg] ; omega))⟩
    · have j5 := j2 rfl
      have v5 := v2 rfl
      have y5 := y1 rfl
      exact ⟨sx_σi [(15, (.ofNat 0, [(13, .ofNat 5)])), (18, (.ofNat 1, [(18, .ofNat 1)]))] σ, gs_fix_of rfl hf0, gs_cnt_of rfl hc0 hn, gs_none rfl, gs_none rfl, gs_none rfl, gs_none rfl, (fun _ => (gs_some rfl).trans (by (simp only [sx_ev, sx_evl, gs_ofNat, gs_neg] ; omega))), (fun e => nomatch e), gs_lo rfl, tv_pb_t_23_tff a b c d e f g h hLB (gs_F hq0 hf0 hc0 (by (repeat' (first | exact bk_F0 | (refine bk_F1 ?_ ?_))) <;> (simp only [sx_ev, sx_evl, gs_ofNat, gs_neg] ; omega))) (by (repeat' (first | exact gs_t0 | (refine gs_t1 ?_ ?_))) <;> (simp only [sx_ev, sx_evl, gs_ofNat, gs_neg] ; omega))⟩
    · have j5 := j1 rfl
      have v5 := v2 rfl
      have y5 := y1 rfl
      exact ⟨sx_σi [(15, (.ofNat 0, [(13, .ofNat 5)])), (18, (.ofNat 1, [(18, .ofNat 1)]))] σ, gs_fix_of rfl hf0, gs_cnt_of rfl hc0 hn, gs_none rfl, gs_none rfl, gs_none rfl, gs_none rfl, (fun _ => (gs_some rfl).trans (by (simp only [sx_ev, sx_evl, gs_ofNat, gs_neg] ; omega))), (fun e => nomatch e), gs_lo rfl, tv_pb_t_23_tft a b c d e f g h hLB (gs_F hq0 hf0 hc0 (by (repeat' (first | exact bk_F0 | (refine bk_F1 ?_ ?_))) <;> (simp only [sx_ev, sx_evl, gs_ofNat, gs_neg] ; omega))) (by (repeat' (first | exact gs_t0 | (refine gs_t1 ?_ ?_))) <;> (simp only [sx_ev, sx_evl, gs_ofNat, gs_neg] ; omega))⟩
    · have j5 := j2 rfl
      have v5 := v1 rfl
      exact ⟨sx_σi [(15, (.ofNat 0, [(14, .ofNat 5)])), (18, (.ofNat 1, [(18, .ofNat 1)]))] σ, gs_fix_of rfl hf0, gs_cnt_of rfl hc0 hn, gs_none rfl, gs_none rfl, gs_none rfl, gs_none rfl, (fun _ => (gs_some rfl).trans (by (simp only [sx_ev, sx_evl, gs_ofNat, gs_neg] ; omega))), (fun e => nomatch e), gs_lo rfl, tv_pb_t_23_ttf a b c d e f g h hLB (gs_F hq0 hf0 hc0 (by (repeat' (first | exact bk_F0 | (refine bk_F1 ?_ ?_))) <;> (simp only [sx_ev, sx_evl, gs_ofNat, gs_neg] ; omega))) (by (repeat' (first | exact gs_t0 | (refine gs_t1 ?_ ?_))) <;> (simp only [sx_ev, sx_evl, gs_ofNat, gs_neg] ; omega))⟩
    · have j5 := j1 rfl
      have v5 := v1 rfl
      exact ⟨sx_σi [(15, (.ofNat 0, [(14, .ofNat 5)])), (18, (.ofNat 1, [(18, .ofNat 1)]))] σ, gs_fix_of rfl hf0, gs_cnt_of rfl hc0 hn, gs_none rfl, gs_none rfl, gs_none rfl, gs_none rfl, (fun _ => (gs_some rfl).trans (by (simp only [sx_ev, sx_evl, gs_ofNat, gs_neg] ; omega))), (fun e => nomatch e), gs_lo rfl, tv_pb_t_23_ttt a b c d e f g h hLB (gs_F hq0 hf0 hc0 (by (repeat' (first | exact bk_F0 | (refine bk_F1 ?_ ?_))) <;> (simp only [sx_ev, sx_evl, gs_ofNat, gs_neg] ; omega))) (by (repeat' (first | exact gs_t0 | (refine gs_t1 ?_ ?_))) <;> (simp only [sx_ev, sx_evl, gs_ofNat, gs_neg] ; omega))⟩
    · have j5 := j2 rfl
      have v5 := v2 rfl
      have y5 := y2 rfl
      exact ⟨sx_σi [(15, (.ofNat 0, [(32, .ofNat 6)])), (18, (.ofNat 1, [(18, .ofNat 1)]))] σ, gs_fix_of rfl hf0, gs_cnt_of rfl hc0 hn, gs_none rfl, gs_none rfl, gs_none rfl, gs_none rfl, (fun _ => (gs_some rfl).trans (by (simp only [sx_ev, sx_evl, gs_ofNat, gs_neg] ; omega))), (fun e => nomatch e), gs_lo rfl, tv_pb_t_24_fff a b c d e f g h hLB (gs_F hq0 hf0 hc0 (by (repeat' (first | exact bk_F0 | (refine bk_F1 ?_ ?_))) <;> (simp only [sx_ev, sx_evl, gs_ofNat, gs_neg] ; omega))) (by (repeat' (first | exact gs_t0 | (refine gs_t1 ?_ ?_))) <;> (simp only [sx_ev, sx_evl, gs_ofNat, gs_neg] ; omega))⟩
    · have j5 := j1 rfl
      have v5 := v2 rfl
      have y5 := y2 rfl
      exact ⟨sx_σi [(15, (.ofNat 0, [(32, .ofNat 6)])), (18, (.ofNat 1, [(18, .ofNat 1)]))] σ, gs_fix_of rfl hf0, gs_cnt_of rfl hc0 hn, gs_none rfl, gs_none rfl, gs_none rfl, gs_none rfl, (fun _ => (gs_some rfl).trans (by (simp only [sx_ev, sx_evl, gs_ofNat, gs_neg] ; omega))), (fun e => nomatch e), gs_lo rfl, tv_pb_t_24_fft a b c d e f g h hLB (gs_F hq0 hf0 hc0 (by (repeat' (first | exact bk_F0 | (refine bk_F1 ?_ ?_))) <;> (simp only [sx_ev, sx_evl, gs_ofNat, gs_neg] ; omega))) (by (repeat' (first | exact gs_t0 | (refine gs_t1 ?_ ?_))) <;> (simp only [sx_ev, sx_evl, gs_ofNat, gs_neg] ; omega))⟩
    · have j5 := j2 rfl
      have v5 := v1 rfl
      exact ⟨sx_σi [(15, (.ofNat 0, [(14, .ofNat 6)])), (18, (.ofNat 1, [(18, .ofNat 1)]))] σ, gs_fix_of rfl hf0, gs_cnt_of rfl hc0 hn, gs_none rfl, gs_none rfl, gs_none rfl, gs_none rfl, (fun _ => (gs_some rfl).trans (by (simp only [sx_ev, sx_evl, gs_ofNat, gs_neg] ; omega))), (fun e => nomatch e), gs_lo rfl, tv_pb_t_24_ftf a b c d e f g h hLB (gs_F hq0 hf0 hc0 (by (repeat' (first | exact bk_F0 | (refine bk_F1 ?_ ?_))) <;> (simp only [sx_ev, sx_evl, gs_ofNat, gs_neg] ; omega))) (by (repeat' (first | exact gs_t0 | (refine gs_t1 ?_ ?_))) <;> (simp only [sx_ev, sx_evl, gs_ofNat, gs_neg] ; omega))⟩
    · have j5 := j1 rfl
      have v5 := v1 rfl
      exact ⟨sx_σi [(15, (.ofNat 0, [(14, .ofNat 6)])), (18, (.ofNat 1, [(18, .ofNat 1)]))] σ, gs_fix_of rfl hf0, gs_cnt_of rfl hc0 hn, gs_none rfl, gs_none rfl, gs_none rfl, gs_none rfl, (fun _ => (gs_some rfl).trans (by (simp only [sx_ev, sx_evl, gs_ofNat, gs_neg] ; omega))), (fun e => nomatch e), gs_lo rfl, tv_pb_t_24_ftt a b c d e f g h hLB (gs_F hq0 hf0 hc0 (by (repeat' (first | exact bk_F0 | (refine bk_F1 ?_ ?_))) <;> (simp only [sx_ev, sx_evl, gs_ofNat, gs_neg] ; omega))) (by (repeat' (first | exact gs_t0 | (refine gs_t1 ?_ ?_))) <;> (simp only [sx_ev, sx_evl, gs_ofNat, gs_neg] ; omega))⟩
    · have j5 := j2 rfl
      have v5 := v2 rfl
      have y5 := y1 rfl
      exact ⟨sx_σi [(15, (.ofNat 0, [(13, .ofNat 6)])), (18, (.ofNat 1, [(18, .ofNat 1)]))] σ, gs_fix_of rfl hf0, gs_cnt_of rfl hc0 hn, gs_none rfl, gs_none rfl, gs_none rfl, gs_none rfl, (fun _ => (gs_some rfl).trans (by (simp only [sx_ev, sx_evl, gs_ofNat, gs_neg] ; omega))), (fun e => nomatch e), gs_lo rfl, tv_pb_t_24_tff a b c d e f g h hLB (gs_F hq0 hf0 hc0 (by (repeat' (first | exact bk_F0 | (refine bk_F1 ?_ ?_))) <;> (simp only [sx_ev, sx_evl, gs_ofNat, gs_neg] ; omega))) (by (repeat' (first | exact gs_t0 | (refine gs_t1 ?_ ?_))) <;> (simp only [sx_ev, sx_evl, gs_ofNat, gs_neg] ; omega))⟩
    · have j5 := j1 rfl
      have v5 := v2 rfl
      have y5 := y1 rfl
      exact ⟨sx_σi [(15, (.ofNat 0, [(13, .ofNat 6)])), (18, (.ofNat 1, [(18, .ofNat 1)]))] σ, gs_fix_of rfl hf0, gs_cnt_of rfl hc0 hn, gs_none rfl, gs_none rfl, gs_none rfl, gs_none rfl, (fun _ => (gs_some rfl).trans (by (simp only [sx_ev, sx_evl, gs_ofNat, gs_neg] ; omega))), (fun e => nomatch e), gs_lo rfl, tv_pb_t_24_tft a b c d e f g h hLB (gs_F hq0 hf0 hc0 (by (repeat' (first | exact bk_F0 | (refine bk_F1 ?_ ?_))) <;> (simp only [sx_ev, sx_evl, gs_ofNat, gs_neg] ; omega))) (by (repeat' (first | exact gs_t0 | (refine gs_t1 ?_ ?_))) <;> (simp only [sx_ev, sx_evl, gs_ofNat, gs_neg] ; omega))⟩
    · have j5 := j2 rfl
      have v5 := v1 rfl
      exact ⟨sx_σi [(15, (.ofNat 0, [(14, .ofNat 6)])), (18, (.ofNat 1, [(18, .ofNat 1)]))] σ, gs_fix_of rfl hf0, gs_cnt_of rfl hc0 hn, gs_none rfl, gs_none rfl, gs_none rfl, gs_none rfl, (fun _ => (gs_some rfl).trans (by (simp only [sx_ev, sx_evl, gs_ofNat, gs_neg] ; omega))), (fun e => nomatch e), gs_lo rfl, tv_pb_t_24_ttf a b c d e f g h hLB (gs_F hq0 hf0 hc0 (by (repeat' (first | exact bk_F0 | (refine bk_F1 ?_ ?_))) <;> (simp only [sx_ev, sx_evl, gs_ofNat, gs_neg] ; omega))) (by (repeat' (first | exact gs_t0 | (refine gs_t1 ?_ ?_))) <;> (simp only [sx_ev, sx_evl, gs_ofNat, gs_neg] ; omega))⟩
    · have j5 := j1 rfl
      have v5 := v1 rfl
      exact ⟨sx_σi [(15, (.ofNat 0, [(14, .ofNat 6)])), (18, (.ofNat 1, [(18, .ofNat 1)]))] σ, gs_fix_of rfl hf0, gs_cnt_of rfl hc0 hn, gs_none rfl, gs_none rfl, gs_none rfl, gs_none rfl, (fun _ => (gs_some rfl).trans (by (simp only [sx_ev, sx_evl, gs_ofNat, gs_neg] ; omega))), (fun e => nomatch e), gs_lo rfl, tv_pb_t_24_ttt a b c d e f g h hLB (gs_F hq0 hf0 hc0 (by (repeat' (first | exact bk_F0 | (refine bk_F1 ?_ ?_))) <;> (simp only [sx_ev, sx_evl, gs_ofNat, gs_neg] ; omega))) (by (repeat' (first | exact gs_t0 | (refine gs_t1 ?_ ?_))) <;> (simp only [sx_ev, sx_evl, gs_ofNat, gs_neg] ; omega))⟩
    · have j5 := j2 rfl
      have v5 := v2 rfl
      have y5 := y2 rfl
      exact ⟨sx_σi [(15, (.ofNat 0, [(32, .ofNat 6)])), (18, (.ofNat 1, [(18, .ofNat 1)]))] σ, gs_fix_of rfl hf0, gs_cnt_of rfl hc0 hn, gs_none rfl, gs_none rfl, gs_none rfl, gs_none rfl, (fun _ => (gs_some rfl).trans (by (simp only [sx_ev, sx_evl, gs_ofNat, gs_neg] ; omega))), (fun e => nomatch e), gs_lo rfl, tv_pb_t_25_fff a b c d e f g h hLB (gs_F hq0 hf0 hc0 (by (repeat' (first | exact bk_F0 | (refine bk_F1 ?_ ?_))) <;> (simp only [sx_ev, sx_evl, gs_ofNat, gs_neg] ; omega))) (by (repeat' (first | exact gs_t0 | (refine gs_t1 ?_ ?_))) <;> (simp only [sx_ev, sx_evl, gs_ofNat, gs_neg] ; omega))⟩
    · have j5 := j1 rfl
      have v5 := v2 rfl
      have y5 := y2 rfl
      exact ⟨sx_σi [(15, (.ofNat 0, [(32, .ofNat 6)])), (18, (.ofNat 1, [(18, .ofNat 1)]))] σ, gs_fix_of rfl hf0, gs_cnt_of rfl hc0 hn, gs_none rfl, gs_none rfl, gs_none rfl, gs_none rfl, (fun _ => (gs_some rfl).trans (by (simp only [sx_ev, sx_evl, gs_ofNat, gs_neg] ; omega))), (fun e => nomatch e), gs_lo rfl, tv_pb_t_25_fft a b c d e f g h hLB (gs_F hq0 hf0 hc0 (by (repeat' (first | exact bk_F0 | (refine bk_F1 ?_ ?_))) <;> (simp only [sx_ev, sx_evl, gs_ofNat, gs_neg] ; omega))) (by (repeat' (first | exact gs_t0 | (refine gs_t1 ?_ ?_))) <;> (simp only [sx_ev, sx_evl, gs_ofNat, gs_neg] ; omega))⟩
    · have j5 := j2 rfl
      have v5 := v1 rfl
      exact ⟨sx_σi [(15, (.ofNat 0, [(14, .ofNat 6)])), (18, (.ofNat 1, [(18, .ofNat 1)]))] σ, gs_fix_of rfl hf0, gs_cnt_of rfl hc0 hn, gs_none rfl, gs_none rfl, gs_none rfl, gs_none rfl, (fun _ => (gs_some rfl).trans (by (simp only [sx_ev, sx_evl, gs_ofNat, gs_neg] ; omega))), (fun e => nomatch e), gs_lo rfl, tv_pb_t_25_ftf a b c d e f g h hLB (gs_F hq0 hf0 hc0 (by (repeat' (first | exact bk_F0 | (refine bk_F1 ?_ ?_))) <;> (simp only [sx_ev, sx_evl, gs_ofNat, gs_neg] ; omega))) (by (repeat' (first | exact gs_t0 | (refine gs_t1 ?_ ?_))) <;> (simp only [sx_ev, sx_evl, gs_ofNat, gs_neg] ; omega))⟩
    · have j5 := j1 rfl
      have v5 := v1 rfl
      exact ⟨sx_σi [(15, (.ofNat 0, [(14, .ofNat 6)])), (18, (.ofNat 1, [(18, .ofNat 1)]))] σ, gs_fix_of rfl hf0, gs_cnt_of rfl hc0 hn, gs_none rfl, gs_none rfl, gs_none rfl, gs_none rfl, (fun _ => (gs_some rfl).trans (by (simp only [sx_ev, sx_evl, gs_ofNat, gs_neg] ; omega))), (fun e => nomatch e), gs_lo rfl, tv_pb_t_25_ftt a b c d e f g h hLB (gs_F hq0 hf0 hc0 (by (repeat' (first | exact bk_F0 | (refine bk_F1 ?_ ?_))) <;> (simp only [sx_ev, sx_evl, gs_ofNat, gs_neg] ; omega))) (by (repeat' (first | exact gs_t0 | (refine gs_t1 ?_ ?_))) <;> (simp only [sx_ev, sx_evl, gs_ofNat, gs_neg] ; omega))⟩
    · have j5 := j2 rfl
      have v5 := v2 rfl
      have y5 := y1 rfl
      exact ⟨sx_σi [(15, (.ofNat 0, [(13, .ofNat 6)])), (18, (.ofNat 1, [(18, .ofNat 1)]))] σ, gs_fix_of rfl hf0, gs_cnt_of rfl hc0 hn, gs_none rfl, gs_none rfl, gs_none rfl, gs_none rfl, (fun _ => (gs_some rfl).trans (by (simp only [sx_ev, sx_evl, gs_ofNat, gs_neg] ; omega))), (fun e => nomatch e), gs_lo rfl, tv_pb_t_25_tff a b c d e f g h hLB (gs_F hq0 hf0 hc0 (by (repeat' (first | exact bk_F0 | (refine bk_F1 ?_ ?_))) <;> (simp only [sx_ev, sx_evl, gs_ofNat, gs_neg] ; omega))) (by (repeat' (first | exact gs_t0 | (refine gs_t1 ?_ ?_))) <;> (simp only [sx_ev, sx_evl, gs_ofNat, gs_neg] ; omega))⟩
    · have j5 := j1 rfl
      have v5 := v2 rfl
      have y5 := y1 rfl
      exact ⟨sx_σi [(15, (.ofNat 0, [(13, .ofNat 6)])), (18, (.ofNat 1, [(18, .ofNat 1)]))] σ, gs_fix_of rfl hf0, gs_cnt_of rfl hc0 hn, gs_none rfl, gs_none rfl, gs_none rfl, gs_none rfl, (fun _ => (gs_some rfl).trans (by (simp only [sx_ev, sx_evl, gs_ofNat, gs_neg] ; omega))), (fun e => nomatch e), gs_lo rfl, tv_pb_t_25_tft a b c d e f g h hLB (gs_F hq0 hf0 hc0 (by (repeat' (first | exact bk_F0 | (refine bk_F1 ?_ ?_))) <;> (simp only [sx_ev, sx_evl, gs_ofNat, gs_neg] ; omega))) (by (repeat' (first | exact gs_t0 | (refine gs_t1 ?_ ?_))) <;> (simp only [sx_ev, sx_evl, gs_ofNat, gs_neg] ; omega))⟩
    · have j5 := j2 rfl
      have v5 := v1 rfl
      exact ⟨sx_σi [(15, (.ofNat 0, [(14, .ofNat 6)])), (18, (.ofNat 1, [(18, .ofNat 1)]))] σ, gs_fix_of rfl hf0, gs_cnt_of rfl hc0 hn, gs_none rfl, gs_none rfl, gs_none rfl, gs_none rfl, (fun _ => (gs_some rfl).trans (by (simp only [sx_ev, sx_evl, gs_ofNat, gs_neg] ; omega))), (fun e => nomatch e), gs_lo rfl, tv_pb_t_25_ttf a b c d e f g h hLB (gs_F hq0 hf0 hc0 (by (repeat' (first | exact bk_F0 | (refine bk_F1 ?_ ?_))) <;> (simp only [sx_ev, sx_evl, gs_ofNat, gs_neg] ; omega))) (by (repeat' (first | exact gs_t0 | (refine gs_t1 ?_ ?_))) <;> (simp only [sx_ev, sx_evl, gs_ofNat, gs_neg] ; omega))⟩
    · have j5 := j1 rfl
      have v5 := v1 rfl
      exact ⟨sx_σi [(15, (.ofNat 0, [(14, .ofNat 6)])), (18, (.ofNat 1, [(18, .ofNat 1)]))] σ, gs_fix_of rfl hf0, gs_cnt_of rfl hc0 hn, gs_none rfl, gs_none rfl, gs_none rfl, gs_none rfl, (fun _ => (gs_some rfl).trans (by (simp only [sx_ev, sx_evl, gs_ofNat, gs_neg] ; omega))), (fun e => nomatch e), gs_lo rfl, tv_pb_t_25_ttt a b c d e f g h hLB (gs_F hq0 hf0 hc0 (by (repeat' (first | exact bk_F0 | (refine bk_F1 ?_ ?_))) <;> (simp only [sx_ev, sx_evl, gs_ofNat, gs_neg] ; omega))) (by (repeat' (first | exact gs_t0 | (refine gs_t1 ?_ ?_))) <;> (simp only [sx_ev, sx_evl, gs_ofNat, gs_neg] ; omega))⟩
  · obtain rfl : r = false := by rw [hr, hB]; rfl
    rcases Int.lt_trichotomy v0 g0 with ho | ho | ho <;> cases y <;> cases v <;> cases j
    · rw [if_pos (show v0 < g0 by omega)] at hv
      have j5 := j2 rfl
      have v5 := v2 rfl
      have y5 := y2 rfl
      have hv := Option.some.inj hv
      exact ⟨sx_σi [(18, (.ofNat 1, [(18, .ofNat 1)]))] σ, gs_fix_of rfl hf0, gs_cnt_of rfl hc0 hn, gs_none rfl, gs_none rfl, gs_none rfl, gs_none rfl, (fun e => nomatch e), (fun _ => hv.symm), gs_lo rfl, tv_pb_lt_0_fff a b c d e f g h hLB (gs_F hq0 hf0 hc0 (by (repeat' (first | exact bk_F0 | (refine bk_F1 ?_ ?_))) <;> (simp only [sx_ev, sx_evl, gs_ofNat, gs_neg] ; omega))) (by (repeat' (first | exact gs_t0 | (refine gs_t1 ?_ ?_))) <;> (simp only [sx_ev, sx_evl, gs_ofNat, gs_neg] ; omega))⟩
    · rw [if_pos (show v0 < g0 by omega)] at hv
      have j5 := j1 rfl
      have v5 := v2 rfl
      have y5 := y2 rfl
      have hv := Option.some.inj hv
      exact ⟨sx_σi [(18, (.ofNat 1, [(18, .ofNat 1)]))] σ, gs_fix_of rfl hf0, gs_cnt_of rfl hc0 hn, gs_none rfl, gs_none rfl, gs_none rfl, gs_none rfl, (fun e => nomatch e), (fun _ => hv.symm), gs_lo rfl, tv_pb_lt_0_fft a b c d e f g h hLB (gs_F hq0 hf0 hc0 (by (repeat' (first | exact bk_F0 | (refine bk_F1 ?_ ?_))) <;> (simp only [sx_ev, sx_evl, gs_ofNat, gs_neg] ; omega))) (by (repeat' (first | exact gs_t0 | (refine gs_t1 ?_ ?_))) <;> (simp only [sx_ev, sx_evl, gs_ofNat, gs_neg] ; omega))⟩
    · rw [if_pos (show v0 < g0 by omega)] at hv
      have j5 := j2 rfl
      have v5 := v1 rfl
      have hv := Option.some.inj hv
      exact ⟨sx_σi [(18, (.ofNat 1, [(18, .ofNat 1)]))] σ, gs_fix_of rfl hf0, gs_cnt_of rfl hc0 hn, gs_none rfl, gs_none rfl, gs_none rfl, gs_none rfl, (fun e => nomatch e), (fun _ => hv.symm), gs_lo rfl, tv_pb_lt_0_ftf a b c d e f g h hLB (gs_F hq0 hf0 hc0 (by (repeat' (first | exact bk_F0 | (refine bk_F1 ?_ ?_))) <;> (simp only [sx_ev, sx_evl, gs_ofNat, gs_neg] ; omega))) (by (repeat' (first | exact gs_t0 | (refine gs_t1 ?_ ?_))) <;> (simp only [sx_ev, sx_evl, gs_ofNat, gs_neg] ; omega))⟩
    · rw [if_pos (show v0 < g0 by omega)] at hv
      have j5 := j1 rfl
      have v5 := v1 rfl
      have hv := Option.some.inj hv
      exact ⟨sx_σi [(18, (.ofNat 1, [(18, .ofNat 1)]))] σ, gs_fix_of rfl hf0, gs_cnt_of rfl hc0 hn, gs_none rfl, gs_none rfl, gs_none rfl, gs_none rfl, (fun e => nomatch e), (fun _ => hv.symm), gs_lo rfl, tv_pb_lt_0_ftt a b c d e f g h hLB (gs_F hq0 hf0 hc0 (by (repeat' (first | exact bk_F0 | (refine bk_F1 ?_ ?_))) <;> (simp only [sx_ev, sx_evl, gs_ofNat, gs_neg] ; omega))) (by (repeat' (first | exact gs_t0 | (refine gs_t1 ?_ ?_))) <;> (simp only [sx_ev, sx_evl, gs_ofNat, gs_neg] ; omega))⟩
    · rw [if_pos (show v0 < g0 by omega)] at hv
      have j5 := j2 rfl
      have v5 := v2 rfl
      have y5 := y1 rfl
      have hv := Option.some.inj hv
      exact ⟨sx_σi [(18, (.ofNat 1, [(18, .ofNat 1)]))] σ, gs_fix_of rfl hf0, gs_cnt_of rfl hc0 hn, gs_none rfl, gs_none rfl, gs_none rfl, gs_none rfl, (fun e => nomatch e), (fun _ => hv.symm), gs_lo rfl, tv_pb_lt_0_tff a b c d e f g h hLB (gs_F hq0 hf0 hc0 (by (repeat' (first | exact bk_F0 | (refine bk_F1 ?_ ?_))) <;> (simp only [sx_ev, sx_evl, gs_ofNat, gs_neg] ; omega))) (by (repeat' (first | exact gs_t0 | (refine gs_t1 ?_ ?_))) <;> (simp only [sx_ev, sx_evl, gs_ofNat, gs_neg] ; omega))⟩
    · rw [if_pos (show v0 < g0 by omega)] at hv
      have j5 := j1 rfl
      have v5 := v2 rfl
      have y5 := y1 rfl
      have hv := Option.some.inj hv
      exact ⟨sx_σi [(18, (.ofNat 1, [(18, .ofNat 1)]))] σ, gs_fix_of rfl hf0, gs_cnt_of rfl hc0 hn, gs_none rfl, gs_none rfl, gs_none rfl, gs_none rfl, (fun e => nomatch e), (fun _ => hv.symm), gs_lo rfl, tv_pb_lt_0_tft a b c d e f g h hLB (gs_F hq0 hf0 hc0 (by (repeat' (first | exact bk_F0 | (refine bk_F1 ?_ ?_))) <;> (simp only [sx_ev, sx_evl, gs_ofNat, gs_neg] ; omega))) (by (repeat' (first | exact gs_t0 | (refine gs_t1 ?_ ?_))) <;> (simp only [sx_ev, sx_evl, gs_ofNat, gs_neg] ; omega))⟩
    · rw [if_pos (show v0 < g0 by omega)] at hv
      have j5 := j2 rfl
      have v5 := v1 rfl
      have hv := Option.some.inj hv
      exact ⟨sx_σi [(18, (.ofNat 1, [(18, .ofNat 1)]))] σ, gs_fix_of rfl hf0, gs_cnt_of rfl hc0 hn, gs_none rfl, gs_none rfl, gs_none rfl, gs_none rfl, (fun e => nomatch e), (fun _ => hv.symm), gs_lo rfl, tv_pb_lt_0_ttf a b c d e f g h hLB (gs_F hq0 hf0 hc0 (by (repeat' (first | exact bk_F0 | (refine bk_F1 ?_ ?_))) <;> (simp only [sx_ev, sx_evl, gs_ofNat, gs_neg] ; omega))) (by (repeat' (first | exact gs_t0 | (refine gs_t1 ?_ ?_))) <;> (simp only [sx_ev, sx_evl, gs_ofNat, gs_neg] ; omega))⟩
    · rw [if_pos (show v0 < g0 by omega)] at hv
      have j5 := j1 rfl
      have v5 := v1 rfl
      have hv := Option.some.inj hv
      exact ⟨sx_σi [(18, (.ofNat 1, [(18, .ofNat 1)]))] σ, gs_fix_of rfl hf0, gs_cnt_of rfl hc0 hn, gs_none rfl, gs_none rfl, gs_none rfl, gs_none rfl, (fun e => nomatch e), (fun _ => hv.symm), gs_lo rfl, tv_pb_lt_0_ttt a b c d e f g h hLB (gs_F hq0 hf0 hc0 (by (repeat' (first | exact bk_F0 | (refine bk_F1 ?_ ?_))) <;> (simp only [sx_ev, sx_evl, gs_ofNat, gs_neg] ; omega))) (by (repeat' (first | exact gs_t0 | (refine gs_t1 ?_ ?_))) <;> (simp only [sx_ev, sx_evl, gs_ofNat, gs_neg] ; omega))⟩
    · rw [if_neg (show ¬ (v0 < g0) by omega)] at hv
      cases hv
    · rw [if_neg (show ¬ (v0 < g0) by omega)] at hv
      cases hv
    · rw [if_neg (show ¬ (v0 < g0) by omega)] at hv
      cases hv
    · rw [if_neg (show ¬ (v0 < g0) by omega)] at hv
      cases hv
    · rw [if_neg (show ¬ (v0 < g0) by omega)] at hv
      cases hv
    · rw [if_neg (show ¬ (v0 < g0) by omega)] at hv
      cases hv
    · rw [if_neg (show ¬ (v0 < g0) by omega)] at hv
      cases hv
    · rw [if_neg (show ¬ (v0 < g0) by omega)] at hv
      cases hv
    · rw [if_neg (show ¬ (v0 < g0) by omega)] at hv
      cases hv
    · rw [if_neg (show ¬ (v0 < g0) by omega)] at hv
      cases hv
    · rw [if_neg (show ¬ (v0 < g0) by omega)] at hv
      cases hv
    · rw [if_neg (show ¬ (v0 < g0) by omega)] at hv
      cases hv
    · rw [if_neg (show ¬ (v0 < g0) by omega)] at hv
      cases hv
    · rw [if_neg (show ¬ (v0 < g0) by omega)] at hv
      cases hv
    · rw [if_neg (show ¬ (v0 < g0) by omega)] at hv
      cases hv
    · rw [if_neg (show ¬ (v0 < g0) by omega)] at hv
      cases hv
  · obtain rfl : r = false := by rw [hr, hB]; rfl
    rcases Int.lt_trichotomy v0 g0 with ho | ho | ho <;> cases y <;> cases v <;> cases j
    · rw [if_neg (show ¬ (v0 ≥ g0) by omega)] at hv
      cases hv
    · rw [if_neg (show ¬ (v0 ≥ g0) by omega)] at hv
      cases hv
    · rw [if_neg (show ¬ (v0 ≥ g0) by omega)] at hv
      cases hv
    · rw [if_neg (show ¬ (v0 ≥ g0) by omega)] at hv
      cases hv
    · rw [if_neg (show ¬ (v0 ≥ g0) by omega)] at hv
      cases hv
    · rw [if_neg (show ¬ (v0 ≥ g0) by omega)] at hv
      cases hv
    · rw [if_neg (show ¬ (v0 ≥ g0) by omega)] at hv
      cases hv
    · rw [if_neg (show ¬ (v0 ≥ g0) by omega)] at hv
      cases hv
    · rw [if_pos (show v0 ≥ g0 by omega)] at hv
      have j5 := j2 rfl
      have v5 := v2 rfl
      have y5 := y2 rfl
      have hv := Option.some.inj hv
      exact ⟨sx_σi [(18, (.ofNat 1, [(18, .ofNat 1)]))] σ, gs_fix_of rfl hf0, gs_cnt_of rfl hc0 hn, gs_none rfl, gs_none rfl, gs_none rfl, gs_none rfl, (fun e => nomatch e), (fun _ => hv.symm), gs_lo rfl, tv_pb_ge_1_fff a b c d e f g h hLB (gs_F hq0 hf0 hc0 (by (repeat' (first | exact bk_F0 | (refine bk_F1 ?_ ?_))) <;> (simp only [sx_ev, sx_evl, gs_ofNat, gs_neg] ; omega))) (by (repeat' (first | exact gs_t0 | (refine gs_t1 ?_ ?_))) <;> (simp only [sx_ev, sx_evl, gs_ofNat, gs_neg] ; omega))⟩
    · rw [if_pos (show v0 ≥ g0 by omega)] at hv
      have j5 := j1 rfl
      have v5 := v2 rfl
      have y5 := y2 rfl
      have hv := Option.some.inj hv
      exact ⟨sx_σi [(18, (.ofNat 1, [(18, .ofNat 1)]))] σ, gs_fix_of rfl hf0, gs_cnt_of rfl hc0 hn, gs_none rfl, gs_none rfl, gs_none rfl, gs_none rfl, (fun e => nomatch e), (fun _ => hv.symm), gs_lo rfl, tv_pb_ge_1_fft a b c d e f g h hLB (gs_F hq0 hf0 hc0 (by (repeat' (first | exact bk_F0 | (refine bk_F1 ?_ ?_))) <;> (simp only [sx_ev, sx_evl, gs_ofNat, gs_neg] ; omega))) (by (repeat' (first | exact gs_t0 | (refine gs_t1 ?_ ?_))) <;> (simp only [sx_ev, sx_evl, gs_ofNat, gs_neg] ; omega))⟩
    · rw [if_pos (show v0 ≥ g0 by omega)] at hv
      have j5 := j2 rfl
      have v5 := v1 rfl
      have hv := Option.some.inj hv
      exact ⟨sx_σi [(18, (.ofNat 1, [(18, .ofNat 1)]))] σ, gs_fix_of rfl hf0, gs_cnt_of rfl hc0 hn, gs_none rfl, gs_none rfl, gs_none rfl, gs_none rfl, (fun e => nomatch e), (fun _ => hv.symm), gs_lo rfl, tv_pb_ge_1_ftf a b c d e f g h hLB (gs_F hq0 hf0 hc0 (by (repeat' (first | exact bk_F0 | (refine bk_F1 ?_ ?_))) <;> (simp only [sx_ev, sx_evl, gs_ofNat, gs_neg] ; omega))) (by (repeat' (first | exact gs_t0 | (refine gs_t1 ?_ ?_))) <;> (simp only [sx_ev, sx_evl, gs_ofNat, gs_neg] ; omega))⟩
    · rw [if_pos (show v0 ≥ g0 by omega)] at hv
      have j5 := j1 rfl
      have v5 := v1 rfl
      have hv := Option.some.inj hv
      exact ⟨sx_σi [(18, (.ofNat 1, [(18, .ofNat 1)]))] σ, gs_fix_of rfl hf0, gs_cnt_of rfl hc0 hn, gs_none rfl, gs_none rfl, gs_none rfl, gs_none rfl, (fun e => nomatch e), (fun _ => hv.symm), gs_lo rfl, tv_pb_ge_1_ftt a b c d e f g h hLB (gs_F hq0 hf0 hc0 (by (repeat' (first | exact bk_F0 | (refine bk_F1 ?_ ?_))) <;> (simp only [sx_ev, sx_evl, gs_ofNat, gs_neg] ; omega))) (by (repeat' (first | exact gs_t0 | (refine gs_t1 ?_ ?_))) <;> (simp only [sx_ev, sx_evl, gs_ofNat, gs_neg] ; omega))⟩
    · rw [if_pos (show v0 ≥ g0 by omega)] at hv
      have j5 := j2 rfl
      have v5 := v2 rfl
      have y5 := y1 rfl
      have hv := Option.some.inj hv
      exact ⟨sx_σi [(18, (.ofNat 1, [(18, .ofNat 1)]))] σ, gs_fix_of rfl hf0, gs_cnt_of rfl hc0 hn, gs_none rfl, gs_none rfl, gs_none rfl, gs_none rfl, (fun e => nomatch e), (fun _ => hv.symm), gs_lo rfl, tv_pb_ge_1_tff a b c d e f g h hLB (gs_F hq0 hf0 hc0 (by (repeat' (first | exact bk_F0 | (refine bk_F1 ?_ ?_))) <;> (simp only [sx_ev, sx_evl, gs_ofNat, gs_neg] ; omega))) (by (repeat' (first | exact gs_t0 | (refine gs_t1 ?_ ?_))) <;> (simp only [sx_ev, sx_evl, gs_ofNat, gs_neg] ; omega))⟩
    · rw [if_pos (show v0 ≥ g0 by omega)] at hv
      have j5 := j1 rfl
      have v5 := v2 rfl
      have y5 := y1 rfl
      have hv := Option.some.inj hv
      exact ⟨sx_σi [(18, (.ofNat 1, [(18, .ofNat 1)]))] σ, gs_fix_of rfl hf0, gs_cnt_of rfl hc0 hn, gs_none rfl, gs_none rfl, gs_none rfl, gs_none rfl, (fun e => nomatch e), (fun _ => hv.symm), gs_lo rfl, tv_pb_ge_1_tft a b c d e f g h hLB (gs_F hq0 hf0 hc0 (by (repeat' (first | exact bk_F0 | (refine bk_F1 ?_ ?_))) <;> (simp only [sx_ev, sx_evl, gs_ofNat, gs_neg] ; omega))) (by (repeat' (first | exact gs_t0 | (refine gs_t1 ?_ ?_))) <;> (simp only [sx_ev, sx_evl, gs_ofNat, gs_neg] ; omega))⟩
    · rw [if_pos (show v0 ≥ g0 by omega)] at hv
      have j5 := j2 rfl
      have v5 := v1 rfl
      have hv := Option.some.inj hv
      exact ⟨sx_σi [(18, (.ofNat 1, [(18, .ofNat 1)]))] σ, gs_fix_of rfl hf0, gs_cnt_of rfl hc0 hn, gs_none rfl, gs_none rfl, gs_none rfl, gs_none rfl, (fun e => nomatch e), (fun _ => hv.symm), gs_lo rfl, tv_pb_ge_1_ttf a b c d e f g h hLB (gs_F hq0 hf0 hc0 (by (repeat' (first | exact bk_F0 | (refine bk_F1 ?_ ?_))) <;> (simp only [sx_ev, sx_evl, gs_ofNat, gs_neg] ; omega))) (by (repeat' (first | exact gs_t0 | (refine gs_t1 ?_ ?_))) <;> (simp only [sx_ev, sx_evl, gs_ofNat, gs_neg] ; omega))⟩
    · rw [if_pos (show v0 ≥ g0 by omega)] at hv
      have j5 := j1 rfl
      have v5 := v1 rfl
      have hv := Option.some.inj hv
      exact ⟨sx_σi [(18, (.ofNat 1, [(18, .ofNat 1)]))] σ, gs_fix_of rfl hf0, gs_cnt_of rfl hc0 hn, gs_none rfl, gs_none rfl, gs_none rfl, gs_none rfl, (fun e => nomatch e), (fun _ => hv.symm), gs_lo rfl, tv_pb_ge_1_ttt a b c d e f g h hLB (gs_F hq0 hf0 hc0 (by (repeat' (first | exact bk_F0 | (refine bk_F1 ?_ ?_))) <;> (simp only [sx_ev, sx_evl, gs_ofNat, gs_neg] ; omega))) (by (repeat' (first | exact gs_t0 | (refine gs_t1 ?_ ?_))) <;> (simp only [sx_ev, sx_evl, gs_ofNat, gs_neg] ; omega))⟩
    · rw [if_pos (show v0 ≥ g0 by omega)] at hv
      have j5 := j2 rfl
      have v5 := v2 rfl
      have y5 := y2 rfl
      have hv := Option.some.inj hv
      exact ⟨sx_σi [(18, (.ofNat 1, [(18, .ofNat 1)]))] σ, gs_fix_of rfl hf0, gs_cnt_of rfl hc0 hn, gs_none rfl, gs_none rfl, gs_none rfl, gs_none rfl, (fun e => nomatch e), (fun _ => hv.symm), gs_lo rfl, tv_pb_ge_2_fff a b c d e f g h hLB (gs_F hq0 hf0 hc0 (by (repeat' (first | exact bk_F0 | (refine bk_F1 ?_ ?_))) <;> (simp only [sx_ev, sx_evl, gs_ofNat, gs_neg] ; omega))) (by (repeat' (first | exact gs_t0 | (refine gs_t1 ?_ ?_))) <;> (simp only [sx_ev, sx_evl, gs_ofNat, gs_neg] ; omega))⟩
    · rw [if_pos (show v0 ≥ g0 by omega)] at hv
      have j5 := j1 rfl
      have v5 := v2 rfl
      have y5 := y2 rfl
      have hv := Option.some.inj hv
      exact ⟨sx_σi [(18, (.ofNat 1, [(18, .ofNat 1)]))] σ, gs_fix_of rfl hf0, gs_cnt_of rfl hc0 hn, gs_none rfl, gs_none rfl, gs_none rfl, gs_none rfl, (fun e => nomatch e), (fun _ => hv.symm), gs_lo rfl, tv_pb_ge_2_fft a b c d e f g h hLB (gs_F hq0 hf0 hc0 (by (repeat' (first | exact bk_F0 | (refine bk_F1 ?_ ?_))) <;> (simp only [sx_ev, sx_evl, gs_ofNat, gs_neg] ; omega))) (by (repeat' (first | exact gs_t0 | (refine gs_t1 ?_ ?_))) <;> (simp only [sx_ev, sx_evl, gs_ofNat, gs_neg] ; omega))⟩
    · rw [if_pos (show v0 ≥ g0 by omega)] at hv
      have j5 := j2 rfl
      have v5 := v1 rfl
      have hv := Option.some.inj hv
      exact ⟨sx_σi [(18, (.ofNat 1, [(18, .ofNat 1)]))] σ, gs_fix_of rfl hf0, gs_cnt_of rfl hc0 hn, gs_none rfl, gs_none rfl, gs_none rfl, gs_none rfl, (fun e => nomatch e), (fun _ => hv.symm), gs_lo rfl, tv_pb_ge_2_ftf a b c d e f g h hLB (gs_F hq0 hf0 hc0 (by (repeat' (first | exact bk_F0 | (refine bk_F1 ?_ ?_))) <;> (simp only [sx_ev, sx_evl, gs_ofNat, gs_neg] ; omega))) (by (repeat' (first | exact gs_t0 | (refine gs_t1 ?_ ?_))) <;> (simp only [sx_ev, sx_evl, gs_ofNat, gs_neg] ; omega))⟩
    · rw [if_pos (show v0 ≥ g0 by omega)] at hv
      have j5 := j1 rfl
      have v5 := v1 rfl
      have hv := Option.some.inj hv
      exact ⟨sx_σi [(18, (.ofNat 1, [(18, .ofNat 1)]))] σ, gs_fix_of rfl hf0, gs_cnt_of rfl hc0 hn, gs_none rfl, gs_none rfl, gs_none rfl, gs_none rfl, (fun e => nomatch e), (fun _ => hv.symm), gs_lo rfl, tv_pb_ge_2_ftt a b c d e f g h hLB (gs_F hq0 hf0 hc0 (by (repeat' (first | exact bk_F0 | (refine bk_F1 ?_ ?_))) <;> (simp only [sx_ev, sx_evl, gs_ofNat, gs_neg] ; omega))) (by (repeat' (first | exact gs_t0 | (refine gs_t1 ?_ ?_))) <;> (simp only [sx_ev, sx_evl, gs_ofNat, gs_neg] ; omega))⟩
    · rw [if_pos (show v0 ≥ g0 by omega)] at hv
      have j5 := j2 rfl
      have v5 := v2 rfl
      have y5 := y1 rfl
      have hv := Option.some.inj hv
      exact ⟨sx_σi [(18, (.ofNat 1, [(18, .ofNat 1)]))] σ, gs_fix_of rfl hf0, gs_cnt_of rfl hc0 hn, gs_none rfl, gs_none rfl, gs_none rfl, gs_none rfl, (fun e => nomatch e), (fun _ => hv.symm), gs_lo rfl, tv_pb_ge_2_tff a b c d e f g h hLB (gs_F hq0 hf0 hc0 (by (repeat' (first | exact bk_F0 | (refine bk_F1 ?_ ?_))) <;> (simp only [sx_ev, sx_evl, gs_ofNat, gs_neg] ; omega))) (by (repeat' (first | exact gs_t0 | (refine gs_t1 ?_ ?_))) <;> (simp only [sx_ev, sx_evl, gs_ofNat, gs_neg] ; omega))⟩
    · rw [if_pos (show v0 ≥ g0 by omega)] at hv
      have j5 := j1 rfl
      have v5 := v2 rfl
      have y5 := y1 rfl
      have hv := Option.some.inj hv
      exact ⟨sx_σi [(18, (.ofNat 1, [(18, .ofNat 1)]))] σ, gs_fix_of rfl hf0, gs_cnt_of rfl hc0 hn, gs_none rfl, gs_none rfl, gs_none rfl, gs_none rfl, (fun e => nomatch e), (fun _ => hv.symm), gs_lo rfl, tv_pb_ge_2_tft a b c d e f g h hLB (gs_F hq0 hf0 hc0 (by (repeat' (first | exact bk_F0 | (refine bk_F1 ?_ ?_))) <;> (simp only [sx_ev, sx_evl, gs_ofNat, gs_neg] ; omega))) (by (repeat' (first | exact gs_t0 | (refine gs_t1 ?_ ?_))) <;> (simp only [sx_ev, sx_evl, gs_ofNat, gs_neg] ; omega))⟩
    · rw [if_pos (show v0 ≥ g0 by omega)] at hv
      have j5 := j2 rfl
      have v5 := v1 rfl
      have hv := Option.some.inj hv
      exact ⟨sx_σi [(18, (.ofNat 1, [(18, .ofNat 1)]))] σ, gs_fix_of rfl hf0, gs_cnt_of rfl hc0 hn, gs_none rfl, gs_none rfl, gs_none rfl, gs_none rfl, (fun e => nomatch e), (fun _ => hv.symm), gs_lo rfl, tv_pb_ge_2_ttf a b c d e f g h hLB (gs_F hq0 hf0 hc0 (by (repeat' (first | exact bk_F0 | (refine bk_F1 ?_ ?_))) <;> (simp only [sx_ev, sx_evl, gs_ofNat, gs_neg] ; omega))) (by (repeat' (first | exact gs_t0 | (refine gs_t1 ?_ ?_))) <;> (simp only [sx_ev, sx_evl, gs_ofNat, gs_neg] ; omega))⟩
    · rw [if_pos (show v0 ≥ g0 by omega)] at hv
      have j5 := j1 rfl
      have v5 := v1 rfl
      have hv := Option.some.inj hv
      exact ⟨sx_σi [(18, (.ofNat 1, [(18, .ofNat 1)]))] σ, gs_fix_of rfl hf0, gs_cnt_of rfl hc0 hn, gs_none rfl, gs_none rfl, gs_none rfl, gs_none rfl, (fun e => nomatch e), (fun _ => hv.symm), gs_lo rfl, tv_pb_ge_2_ttt a b c d e f g h hLB (gs_F hq0 hf0 hc0 (by (repeat' (first | exact bk_F0 | (refine bk_F1 ?_ ?_))) <;> (simp only [sx_ev, sx_evl, gs_ofNat, gs_neg] ; omega))) (by (repeat' (first | exact gs_t0 | (refine gs_t1 ?_ ?_))) <;> (simp only [sx_ev, sx_evl, gs_ofNat, gs_neg] ; omega))⟩
  · obtain rfl : r = false := by rw [hr, hB]; rfl
    rcases Int.lt_trichotomy v0 g0 with ho | ho | ho <;> cases y <;> cases v <;> cases j
    · rw [if_pos (show v0 ≠ g0 by omega)] at hv
      have j5 := j2 rfl
      have v5 := v2 rfl
      have y5 := y2 rfl
      have hv := Option.some.inj hv
      exact ⟨sx_σi [(18, (.ofNat 1, [(18, .ofNat 1)]))] σ, gs_fix_of rfl hf0, gs_cnt_of rfl hc0 hn, gs_none rfl, gs_none rfl, gs_none rfl, gs_none rfl, (fun e => nomatch e), (fun _ => hv.symm), gs_lo rfl, tv_pb_ne_0_fff a b c d e f g h hLB (gs_F hq0 hf0 hc0 (by (repeat' (first | exact bk_F0 | (refine bk_F1 ?_ ?_))) <;> (simp only [sx_ev, sx_evl, gs_ofNat, gs_neg] ; omega))) (by (repeat' (first | exact gs_t0 | (refine gs_t1 ?_ ?_))) <;> (simp only [sx_ev, sx_evl, gs_ofNat, gs_neg] ; omega))⟩
    · rw [if_pos (show v0 ≠ g0 by omega)] at hv
      have j5 := j1 rfl
      have v5 := v2 rfl
      have y5 := y2 rfl
      have hv := Option.some.inj hv
      exact ⟨sx_σi [(18, (.ofNat 1, [(18, .ofNat 1)]))] σ, gs_fix_of rfl hf0, gs_cnt_of rfl hc0 hn, gs_none rfl, gs_none rfl, gs_none rfl, gs_none rfl, (fun e => nomatch e), (fun _ => hv.symm), gs_lo rfl, tv_pb_ne_0_fft a b c d e f g h hLB (gs_F hq0 hf0 hc0 (by (repeat' (first | exact bk_F0 | (refine bk_F1 ?_ ?_))) <;> (simp only [sx_ev, sx_evl, gs_ofNat, gs_neg] ; omega))) (by (repeat' (first | exact gs_t0 | (refine gs_t1 ?_ ?_))) <;> (simp only [sx_ev, sx_evl, gs_ofNat, gs_neg] ; omega))⟩
    · rw [if_pos (show v0 ≠ g0 by omega)] at hv
      have j5 := j2 rfl
      have v5 := v1 rfl
      have hv := Option.some.inj hv
      exact ⟨sx_σi [(18, (.ofNat 1, [(18, .ofNat 1)]))] σ, gs_fix_of rfl hf0, gs_cnt_of rfl hc0 hn, gs_none rfl, gs_none rfl, gs_none rfl, gs_none rfl, (fun e => nomatch e), (fun _ => hv.symm), gs_lo rfl, tv_pb_ne_0_ftf a b c d e f g h hLB (gs_F hq0 hf0 hc0 (by (repeat' (first | exact bk_F0 | (refine bk_F1 ?_ ?_))) <;> (simp only [sx_ev, sx_evl, gs_ofNat, gs_neg] ; omega))) (by (repeat' (first | exact gs_t0 | (refine gs_t1 ?_ ?_))) <;> (simp only [sx_ev, sx_evl, gs_ofNat, gs_neg] ; omega))⟩
    · rw [if_pos (show v0 ≠ g0 by omega)] at hv
      have j5 := j1 rfl
      have v5 := v1 rfl
      have hv := Option.some.inj hv
      exact ⟨sx_σi [(18, (.ofNat 1, [(18, .ofNat 1)]))] σ, gs_fix_of rfl hf0, gs_cnt_of rfl hc0 hn, gs_none rfl, gs_none rfl, gs_none rfl, gs_none rfl, (fun e => nomatch e), (fun _ => hv.symm), gs_lo rfl, tv_pb_ne_0_ftt a b c d e f g h hLB (gs_F hq0 hf0 hc0 (by (repeat' (first | exact bk_F0 | (refine bk_F1 ?_ ?_))) <;> (simp only [sx_ev, sx_evl, gs_ofNat, gs_neg] ; omega))) (by (repeat' (first | exact gs_t0 | (refine gs_t1 ?_ ?_))) <;> (simp only [sx_ev, sx_evl, gs_ofNat, gs_neg] ; omega))⟩
    · rw [if_pos (show v0 ≠ g0 by omega)] at hv
      have j5 := j2 rfl
      have v5 := v2 rfl
      have y5 := y1 rfl
      have hv := Option.some.inj hv
      exact ⟨sx_σi [(18, (.ofNat 1, [(18, .ofNat 1)]))] σ, gs_fix_of rfl hf0, gs_cnt_of rfl hc0 hn, gs_none rfl, gs_none rfl, gs_none rfl, gs_none rfl, (fun e => nomatch e), (fun _ => hv.symm), gs_lo rfl, tv_pb_ne_0_tff a b c d e f g h hLB (gs_F hq0 hf0 hc0 (by (repeat' (first | exact bk_F0 | (refine bk_F1 ?_ ?_))) <;> (simp only [sx_ev, sx_evl, gs_ofNat, gs_neg] ; omega))) (by (repeat' (first | exact gs_t0 | (refine gs_t1 ?_ ?_))) <;> (simp only [sx_ev, sx_evl, gs_ofNat, gs_neg] ; omega))⟩
    · rw [if_pos (show v0 ≠ g0 by omega)] at hv
      have j5 := j1 rfl
      have v5 := v2 rfl
      have y5 := y1 rfl
      have hv := Option.some.inj hv
      exact ⟨sx_σi [(18, (.ofNat 1, [(18, .ofNat 1)]))] σ, gs_fix_of rfl hf0, gs_cnt_of rfl hc0 hn, gs_none rfl, gs_none rfl, gs_none rfl, gs_none rfl, (fun e => nomatch e), (fun _ => hv.symm), gs_lo rfl, tv_pb_ne_0_tft a b c d e f g h hLB (gs_F hq0 hf0 hc0 (by (repeat' (first | exact bk_F0 | (refine bk_F1 ?_ ?_))) <;> (simp only [sx_ev, sx_evl, gs_ofNat, gs_neg] ; omega))) (by (repeat' (first | exact gs_t0 | (refine gs_t1 ?_ ?_))) <;> (simp only [sx_ev, sx_evl, gs_ofNat, gs_neg] ; omega))⟩
    · rw [if_pos (show v0 ≠ g0 by omega)] at hv
      have j5 := j2 rfl
      have v5 := v1 rfl
      have hv := Option.some.inj hv
      exact ⟨sx_σi [(18, (.ofNat 1, [(18, .ofNat 1)]))] σ, gs_fix_of rfl hf0, gs_cnt_of rfl hc0 hn, gs_none rfl, gs_none rfl, gs_none rfl, gs_none rfl, (fun e => nomatch e), (fun _ => hv.symm), gs_lo rfl, tv_pb_ne_0_ttf a b c d e f g h hLB (gs_F hq0 hf0 hc0 (by (repeat' (first | exact bk_F0 | (refine bk_F1 ?_ ?_))) <;> (simp only [sx_ev, sx_evl, gs_ofNat, gs_neg] ; omega))) (by (repeat' (first | exact gs_t0 | (refine gs_t1 ?_ ?_))) <;> (simp only [sx_ev, sx_evl, gs_ofNat, gs_neg] ; omega))⟩
    · rw [if_pos (show v0 ≠ g0 by omega)] at hv
      have j5 := j1 rfl
      have v5 := v1 rfl
      have hv := Option.some.inj hv
      exact ⟨sx_σi [(18, (.ofNat 1, [(18, .ofNat 1)]))] σ, gs_fix_of rfl hf0, gs_cnt_of rfl hc0 hn, gs_none rfl, gs_none rfl, gs_none rfl, gs_none rfl, (fun e => nomatch e), (fun _ => hv.symm), gs_lo rfl, tv_pb_ne_0_ttt a b c d e f g h hLB (gs_F hq0 hf0 hc0 (by (repeat' (first | exact bk_F0 | (refine bk_F1 ?_ ?_))) <;> (simp only [sx_ev, sx_evl, gs_ofNat, gs_neg] ; omega))) (by (repeat' (first | exact gs_t0 | (refine gs_t1 ?_ ?_))) <;> (simp only [sx_ev, sx_evl, gs_ofNat, gs_neg] ; omega))⟩
    · rw [if_neg (show ¬ (v0 ≠ g0) by omega)] at hv
      cases hv
    · rw [if_neg (show ¬ (v0 ≠ g0) by omega)] at hv
      cases hv
    · rw [if_neg (show ¬ (v0 ≠ g0) by omega)] at hv
      cases hv
    · rw [if_neg (show ¬ (v0 ≠ g0) by omega)] at hv
      cases hv
    · rw [if_neg (show ¬ (v0 ≠ g0) by omega)] at hv
      cases hv
    · rw [if_neg (show ¬ (v0 ≠ g0) by omega)] at hv
      cases hv
    · rw [if_neg (show ¬ (v0 ≠ g0) by omega)] at hv
      cases hv
    · rw [if_neg (show ¬ (v0 ≠ g0) by omega)] at hv
      cases hv
    · rw [if_pos (show v0 ≠ g0 by omega)] at hv
      have j5 := j2 rfl
      have v5 := v2 rfl
      have y5 := y2 rfl
      have hv := Option.some.inj hv
      exact ⟨sx_σi [(18, (.ofNat 1, [(18, .ofNat 1)]))] σ, gs_fix_of rfl hf0, gs_cnt_of rfl hc0 hn, gs_none rfl, gs_none rfl, gs_none rfl, gs_none rfl, (fun e => nomatch e), (fun _ => hv.symm), gs_lo rfl, tv_pb_ne_2_fff a b c d e f g h hLB (gs_F hq0 hf0 hc0 (by (repeat' (first | exact bk_F0 | (refine bk_F1 ?_ ?_))) <;> (simp only [sx_ev, sx_evl, gs_ofNat, gs_neg] ; omega))) (by (repeat' (first | exact gs_t0 | (refine gs_t1 ?_ ?_))) <;> (simp only [sx_ev, sx_evl, gs_ofNat, gs_neg] ; omega))⟩
    · rw [if_pos (show v0 ≠ g0 by omega)] at hv
      have j5 := j1 rfl
      have v5 := v2 rfl
      have y5 := y2 rfl
      have hv := Option.some.inj hv
      exact ⟨sx_σi [(18, (.ofNat 1, [(18, .ofNat 1)]))] σ, gs_fix_of rfl hf0, gs_cnt_of rfl hc0 hn, gs_none rfl, gs_none rfl, gs_none rfl, gs_none rfl, (fun e => nomatch e), (fun _ => hv.symm), gs_lo rfl, tv_pb_ne_2_fft a b c d e f g h hLB (gs_F hq0 hf0 hc0 (by (repeat' (first | exact bk_F0 | (refine bk_F1 ?_ ?_))) <;> (simp only [sx_ev, sx_evl, gs_ofNat, gs_neg] ; omega))) (by (repeat' (first | exact gs_t0 | (refine gs_t1 ?_ ?_))) <;> (simp only [sx_ev, sx_evl, gs_ofNat, gs_neg] ; omega))⟩
    · rw [if_pos (show v0 ≠ g0 by omega)] at hv
      have j5 := j2 rfl
      have v5 := v1 rfl
      have hv := Option.some.inj hv
      exact ⟨sx_σi [(18, (.ofNat 1, [(18, .ofNat 1)]))] σ, gs_fix_of rfl hf0, gs_cnt_of rfl hc0 hn, gs_none rfl, gs_none rfl, gs_none rfl, gs_none rfl, (fun e => nomatch e), (fun _ => hv.symm), gs_lo rfl, tv_pb_ne_2_ftf a b c d e f g h hLB (gs_F hq0 hf0 hc0 (by (repeat' (first | exact bk_F0 | (refine bk_F1 ?_ ?_))) <;> (simp only [sx_ev, sx_evl, gs_ofNat, gs_neg] ; omega))) (by (repeat' (first | exact gs_t0 | (refine gs_t1 ?_ ?_))) <;> (simp only [sx_ev, sx_evl, gs_ofNat, gs_neg] ; omega))⟩
    · rw [if_pos (show v0 ≠ g0 by omega)] at hv
      have j5 := j1 rfl
      have v5 := v1 rfl
      have hv := Option.some.inj hv
      exact ⟨sx_σi [(18, (.ofNat 1, [(18, .ofNat 1)]))] σ, gs_fix_of rfl hf0, gs_cnt_of rfl hc0 hn, gs_none rfl, gs_none rfl, gs_none rfl, gs_none rfl, (fun e => nomatch e), (fun _ => hv.symm), gs_lo rfl, tv_pb_ne_2_ftt a b c d e f g h hLB (gs_F hq0 hf0 hc0 (by (repeat' (first | exact bk_F0 | (refine bk_F1 ?_ ?_))) <;> (simp only [sx_ev, sx_evl, gs_ofNat, gs_neg] ; omega))) (by (repeat' (first | exact gs_t0 | (refine gs_t1 ?_ ?_))) <;> (simp only [sx_ev, sx_evl, gs_ofNat, gs_neg] ; omega))⟩
    · rw [if_pos (show v0 ≠ g0 by omega)] at hv
      have j5 := j2 rfl
      have v5 := v2 rfl
      have y5 := y1 rfl
      have hv := Option.some.inj hv
      exact ⟨sx_σi [(18, (.ofNat 1, [(18, .ofNat 1)]))] σ, gs_fix_of rfl hf0, gs_cnt_of rfl hc0 hn, gs_none rfl, gs_none rfl, gs_none rfl, gs_none rfl, (fun e => nomatch e), (fun _ => hv.symm), gs_lo rfl, tv_pb_ne_2_tff a b c d e f g h hLB (gs_F hq0 hf0 hc0 (by (repeat' (first | exact bk_F0 | (refine bk_F1 ?_ ?_))) <;> (simp only [sx_ev, sx_evl, gs_ofNat, gs_neg] ; omega))) (by (repeat' (first | exact gs_t0 | (refine gs_t1 ?_ ?_))) <;> (simp only [sx_ev, sx_evl, gs_ofNat, gs_neg] ; omega))⟩
    · rw [if_pos (show v0 ≠ g0 by omega)] at hv
      have j5 := j1 rfl
      have v5 := v2 rfl
      have y5 := y1 rfl
      have hv := Option.some.inj hv
      exact ⟨sx_σi [(18, (.ofNat 1, [(18, .ofNat 1)]))] σ, gs_fix_of rfl hf0, gs_cnt_of rfl hc0 hn, gs_none rfl, gs_none rfl, gs_none rfl, gs_none rfl, (fun e => nomatch e), (fun _ => hv.symm), gs_lo rfl, tv_pb_ne_2_tft a b c d e f g h hLB (gs_F hq0 hf0 hc0 (by (repeat' (first | exact bk_F0 | (refine bk_F1 ?_ ?_))) <;> (simp only [sx_ev, sx_evl, gs_ofNat, gs_neg] ; omega))) (by (repeat' (first | exact gs_t0 | (refine gs_t1 ?_ ?_))) <;> (simp only [sx_ev, sx_evl, gs_ofNat, gs_neg] ; omega))⟩
    · rw [if_pos (show v0 ≠ g0 by omega)] at hv
      have j5 := j2 rfl
      have v5 := v1 rfl
      have hv := Option.some.inj hv
      exact ⟨sx_σi [(18, (.ofNat 1, [(18, .ofNat 1)]))] σ, gs_fix_of rfl hf0, gs_cnt_of rfl hc0 hn, gs_none rfl, gs_none rfl, gs_none rfl, gs_none rfl, (fun e => nomatch e), (fun _ => hv.symm), gs_lo rfl, tv_pb_ne_2_ttf a b c d e f g h hLB (gs_F hq0 hf0 hc0 (by (repeat' (first | exact bk_F0 | (refine bk_F1 ?_ ?_))) <;> (simp only [sx_ev, sx_evl, gs_ofNat, gs_neg] ; omega))) (by (repeat' (first | exact gs_t0 | (refine gs_t1 ?_ ?_))) <;> (simp only [sx_ev, sx_evl, gs_ofNat, gs_neg] ; omega))⟩
    · rw [if_pos (show v0 ≠ g0 by omega)] at hv
      have j5 := j1 rfl
      have v5 := v1 rfl
      have hv := Option.some.inj hv
      exact ⟨sx_σi [(18, (.ofNat 1, [(18, .ofNat 1)]))] σ, gs_fix_of rfl hf0, gs_cnt_of rfl hc0 hn, gs_none rfl, gs_none rfl, gs_none rfl, gs_none rfl, (fun e => nomatch e), (fun _ => hv.symm), gs_lo rfl, tv_pb_ne_2_ttt a b c d e f g h hLB (gs_F hq0 hf0 hc0 (by (repeat' (first | exact bk_F0 | (refine bk_F1 ?_ ?_))) <;> (simp only [sx_ev, sx_evl, gs_ofNat, gs_neg] ; omega))) (by (repeat' (first | exact gs_t0 | (refine gs_t1 ?_ ?_))) <;> (simp only [sx_ev, sx_evl, gs_ofNat, gs_neg] ; omega))⟩
theorem gs_pbx {q : gs_P} {a b c d e f g h : Bool} {LB : List (Nat × sx_C)} {z : Nat → Nat} {σ : Nat → Int} {n : Int} (hLB : bk_lb LB = true) (hq : gs_ok q) (hb : gs_bits q a b c d e f g h) (hf : gs_fix q σ) (hc : gs_cnt n σ) {y v j : Bool} {y0 v0 g0 : Int} (hy : (y = true → σ 13 = y0) ∧ (y = false → y0 = q.d)) (hv0 : (v = true → σ 14 = v0) ∧ (v = false → v0 = y0)) (hv1 : -100 ≤ v0 ∧ v0 ≤ 100) (hg1 : -6 ≤ g0 ∧ g0 ≤ 6) (j1 : j = true → g0 = q.h) (j2 : j = false → g0 = q.g) (hv : gs_act q.B v0 g0 = none) (hn : n + 1 ≤ 3800) : ∃ σ' : Nat → Int, gs_fix q σ' ∧ gs_cnt (n + 1) σ' ∧ σ' 16 = σ 16 ∧ σ' 10 = σ 10 ∧ σ' 13 = σ 13 ∧ σ' 14 = σ 14 ∧ gx_G 40 sm_X8_go 14 560 9 135 z σ (bk_pt 4 xL [] (gp_PB a b c d e f g h y v j LB) 300) σ' (bk_pt 4 xL [] (gp_QA a b c d e f g h y v j LB) 300) := by
  have hf0 := hf
  have hc0 := hc
  have hq0 := hq
  obtain ⟨f1, f2, f3, f4, f5, f6, f7, f8, f9, f10, f11⟩ := hf
  obtain ⟨⟨q1, q2, q3, q4, q5, q6, q7, q8, q9, q10, q11, q12⟩, ⟨q13, q14, q15⟩, ⟨q16, q17, q18⟩, ⟨q19, q20⟩, q21, q22⟩ := hq
  obtain ⟨b1, b2, b3, b4, b5, b6, b7, b8⟩ := hb
  obtain ⟨y1, y2⟩ := hy
  obtain ⟨v1, v2⟩ := hv0
  obtain ⟨v3, v4⟩ := hv1
  obtain ⟨g3, g4⟩ := hg1
  have hB : q.B = 0 ∨ q.B = 1 ∨ q.B = 2 ∨ q.B = 3 ∨ q.B = 4 ∨ q.B = 5 := by omega
  rcases hB with hB | hB | hB | hB | hB | hB <;> rw [hB] at f11 hv <;> simp only [gs_op] at f11 <;> simp only [gs_act] at hv
  · cases hv
  · cases hv
  · cases hv
  · rcases Int.lt_trichotomy v0 g0 with ho | ho | ho <;> cases y <;> cases v <;> cases j
    · rw [if_pos (show v0 < g0 by omega)] at hv
      cases hv
    · rw [if_pos (show v0 < g0 by omega)] at hv
      cases hv
    · rw [if_pos (show v0 < g0 by omega)] at hv
      cases hv
    · rw [if_pos (show v0 < g0 by omega)] at hv
      cases hv
    · rw [if_pos (show v0 < g0 by omega)] at hv
      cases hv
    · rw [if_pos (show v0 < g0 by omega)] at hv
      cases hv
    · rw [if_pos (show v0 < g0 by omega)] at hv
      cases hv
    · rw [if_pos (show v0 < g0 by omega)] at hv
      cases hv
    · rw [if_neg (show ¬ (v0 < g0) by omega)] at hv
      have j5 := j2 rfl
      have v5 := v2 rfl
      have y5 := y2 rfl
      exact ⟨sx_σi [(18, (.ofNat 1, [(18, .ofNat 1)]))] σ, gs_fix_of rfl hf0, gs_cnt_of rfl hc0 hn, gs_none rfl, gs_none rfl, gs_none rfl, gs_none rfl, gs_lo rfl, tv_pb_lt_1_fff a b c d e f g h hLB (gs_F hq0 hf0 hc0 (by (repeat' (first | exact bk_F0 | (refine bk_F1 ?_ ?_))) <;> (simp only [sx_ev, sx_evl, gs_ofNat, gs_neg] ; omega))) (by (repeat' (first | exact gs_t0 | (refine gs_t1 ?_ ?_))) <;> (simp only [sx_ev, sx_evl, gs_ofNat, gs_neg] ; omega))⟩
    · rw [if_neg (show ¬ (v0 < g0) by omega)] at hv
      have j5 := j1 rfl
      have v5 := v2 rfl
      have y5 := y2 rfl
      exact ⟨sx_σi [(18, (.ofNat 1, [(18, .ofNat 1)]))] σ, gs_fix_of rfl hf0, gs_cnt_of rfl hc0 hn, gs_none rfl, gs_none rfl, gs_none rfl, gs_none rfl, gs_lo rfl, tv_pb_lt_1_fft a b c d e f g h hLB (gs_F hq0 hf0 hc0 (by (repeat' (first | exact bk_F0 | (refine bk_F1 ?_ ?_))) <;> (simp only [sx_ev, sx_evl, gs_ofNat, gs_neg] ; omega))) (by (repeat' (first | exact gs_t0 | (refine gs_t1 ?_ ?_))) <;> (simp only [sx_ev, sx_evl, gs_ofNat, gs_neg] ; omega))⟩
    · rw [if_neg (show ¬ (v0 < g0) by omega)] at hv
      have j5 := j2 rfl
      have v5 := v1 rfl
      exact ⟨sx_σi [(18, (.ofNat 1, [(18, .ofNat 1)]))] σ, gs_fix_of rfl hf0, gs_cnt_of rfl hc0 hn, gs_none rfl, gs_none rfl, gs_none rfl, gs_none rfl, gs_lo rfl, tv_pb_lt_1_ftf a b c d e f g h hLB (gs_F hq0 hf0 hc0 (by (repeat' (first | exact bk_F0 | (refine bk_F1 ?_ ?_))) <;> (simp only [sx_ev, sx_evl, gs_ofNat, gs_neg] ; omega))) (by (repeat' (first | exact gs_t0 | (refine gs_t1 ?_ ?_))) <;> (simp only [sx_ev, sx_evl, gs_ofNat, gs_neg] ; omega))⟩
    · rw [if_neg (show ¬ (v0 < g0) by omega)] at hv
      have j5 := j1 rfl
      have v5 := v1 rfl
      exact ⟨sx_σi [(18, (.ofNat 1, [(18, .ofNat 1)]))] σ, gs_fix_of rfl hf0, gs_cnt_of rfl hc0 hn, gs_none rfl, gs_none rfl, gs_none rfl, gs_none rfl, gs_lo rfl, tv_pb_lt_1_ftt a b c d e f g h hLB (gs_F hq0 hf0 hc0 (by (repeat' (first | exact bk_F0 | (refine bk_F1 ?_ ?_))) <;> (simp only [sx_ev, sx_evl, gs_ofNat, gs_neg] ; omega))) (by (repeat' (first | exact gs_t0 | (refine gs_t1 ?_ ?_))) <;> (simp only [sx_ev, sx_evl, gs_ofNat, gs_neg] ; omega))⟩
    · rw [if_neg (show ¬ (v0 < g0) by omega)] at hv
      have j5 := j2 rfl
      have v5 := v2 rfl
      have y5 := y1 rfl
      exact ⟨sx_σi [(18, (.ofNat 1, [(18, .ofNat 1)]))] σ, gs_fix_of rfl hf0, gs_cnt_of rfl hc0 hn, gs_none rfl, gs_none rfl, gs_none rfl, gs_none rfl, gs_lo rfl, tv_pb_lt_1_tff a b c d e f g h hLB (gs_F hq0 hf0 hc0 (by (repeat' (first | exact bk_F0 | (refine bk_F1 ?_ ?_))) <;> (simp only [sx_ev, sx_evl, gs_ofNat, gs_neg] ; omega))) (by (repeat' (first | exact gs_t0 | (refine gs_t1 ?_ ?_))) <;> (simp only [sx_ev, sx_evl, gs_ofNat, gs_neg] ; omega))⟩
    · rw [if_neg (show ¬ (v0 < g0) by omega)] at hv
      have j5 := j1 rfl
      have v5 := v2 rfl
      have y5 := y1 rfl
      exact ⟨sx_σi [(18, (.ofNat 1, [(18, .ofNat 1)]))] σ, gs_fix_of rfl hf0, gs_cnt_of rfl hc0 hn, gs_none rfl, gs_none rfl, gs_none rfl, gs_none rfl, gs_lo rfl, tv_pb_lt_1_tft a b c d e f g h hLB (gs_F hq0 hf0 hc0 (by (repeat' (first | exact bk_F0 | (refine bk_F1 ?_ ?_))) <;> (simp only [sx_ev, sx_evl, gs_ofNat, gs_neg] ; omega))) (by (repeat' (first | exact gs_t0 | (refine gs_t1 ?_ ?_))) <;> (simp only [sx_ev, sx_evl, gs_ofNat, gs_neg] ; omega))⟩
    · rw [if_neg (show ¬ (v0 < g0) by omega)] at hv
      have j5 := j2 rfl
      have v5 := v1 rfl
      exact ⟨sx_σi [(18, (.ofNat 1, [(18, .ofNat 1)]))] σ, gs_fix_of rfl hf0, gs_cnt_of rfl hc0 hn, gs_none rfl, gs_none rfl, gs_none rfl, gs_none rfl, gs_lo rfl, tv_pb_lt_1_ttf a b c d e f g h hLB (gs_F hq0 hf0 hc0 (by (repeat' (first | exact bk_F0 | (refine bk_F1 ?_ ?_))) <;> (simp only [sx_ev, sx_evl, gs_ofNat, gs_neg] ; omega))) (by (repeat' (first | exact gs_t0 | (refine gs_t1 ?_ ?_))) <;> (simp only [sx_ev, sx_evl, gs_ofNat, gs_neg] ; omega))⟩
    · rw [if_neg (show ¬ (v0 < g0) by omega)] at hv
      have j5 := j1 rfl
      have v5 := v1 rfl
      exact ⟨sx_σi [(18, (.ofNat 1, [(18, .ofNat 1)]))] σ, gs_fix_of rfl hf0, gs_cnt_of rfl hc0 hn, gs_none rfl, gs_none rfl, gs_none rfl, gs_none rfl, gs_lo rfl, tv_pb_lt_1_ttt a b c d e f g h hLB (gs_F hq0 hf0 hc0 (by (repeat' (first | exact bk_F0 | (refine bk_F1 ?_ ?_))) <;> (simp only [sx_ev, sx_evl, gs_ofNat, gs_neg] ; omega))) (by (repeat' (first | exact gs_t0 | (refine gs_t1 ?_ ?_))) <;> (simp only [sx_ev, sx_evl, gs_ofNat, gs_neg] ; omega))⟩
    · rw [if_neg (show ¬ (v0 < g0) by omega)] at hv
      have j5 := j2 rfl
      have v5 := v2 rfl
      have y5 := y2 rfl
      exact ⟨sx_σi [(18, (.ofNat 1, [(18, .ofNat 1)]))] σ, gs_fix_of rfl hf0, gs_cnt_of rfl hc0 hn, gs_none rfl, gs_none rfl, gs_none rfl, gs_none rfl, gs_lo rfl, tv_pb_lt_2_fff a b c d e f g h hLB (gs_F hq0 hf0 hc0 (by (repeat' (first | exact bk_F0 | (refine bk_F1 ?_ ?_))) <;> (simp only [sx_ev, sx_evl, gs_ofNat, gs_neg] ; omega))) (by (repeat' (first | exact gs_t0 | (refine gs_t1 ?_ ?_))) <;> (simp only [sx_ev, sx_evl, gs_ofNat, gs_neg] ; omega))⟩
    · rw [if_neg (show ¬ (v0 < g0) by omega)] at hv
      have j5 := j1 rfl
      have v5 := v2 rfl
      have y5 := y2 rfl
      exact ⟨sx_σi [(18, (.ofNat 1, [(18, .ofNat 1)]))] σ, gs_fix_of rfl hf0, gs_cnt_of rfl hc0 hn, gs_none rfl, gs_none rfl, gs_none rfl, gs_none rfl, gs_lo rfl, tv_pb_lt_2_fft a b c d e f g h hLB (gs_F hq0 hf0 hc0 (by (repeat' (first | exact bk_F0 | (refine bk_F1 ?_ ?_))) <;> (simp only [sx_ev, sx_evl, gs_ofNat, gs_neg] ; omega))) (by (repeat' (first | exact gs_t0 | (refine gs_t1 ?_ ?_))) <;> (simp only [sx_ev, sx_evl, gs_ofNat, gs_neg] ; omega))⟩
    · rw [if_neg (show ¬ (v0 < g0) by omega)] at hv
      have j5 := j2 rfl
      have v5 := v1 rfl
      exact ⟨sx_σi [(18, (.ofNat 1, [(18, .ofNat 1)]))] σ, gs_fix_of rfl hf0, gs_cnt_of rfl hc0 hn, gs_none rfl, gs_none rfl, gs_none rfl, gs_none rfl, gs_lo rfl, tv_pb_lt_2_ftf a b c d e f g h hLB (gs_F hq0 hf0 hc0 (by (repeat' (first | exact bk_F0 | (refine bk_F1 ?_ ?_))) <;> (simp only [sx_ev, sx_evl, gs_ofNat, gs_neg] ; omega))) (by (repeat' (first | exact gs_t0 | (refine gs_t1 ?_ ?_))) <;> (simp only [sx_ev, sx_evl, gs_ofNat, gs_neg] ; omega))⟩
    · rw [if_neg (show ¬ (v0 < g0) by omega)] at hv
      have j5 := j1 rfl
      have v5 := v1 rfl
      exact ⟨sx_σi [(18, (.ofNat 1, [(18, .ofNat 1)]))] σ, gs_fix_of rfl hf0, gs_cnt_of rfl hc0 hn, gs_none rfl, gs_none rfl, gs_none rfl, gs_none rfl, gs_lo rfl, tv_pb_lt_2_ftt a b c d e f g h hLB (gs_F hq0 hf0 hc0 (by (repeat' (first | exact bk_F0 | (refine bk_F1 ?_ ?_))) <;> (simp only [sx_ev, sx_evl, gs_ofNat, gs_neg] ; omega))) (by (repeat' (first | exact gs_t0 | (refine gs_t1 ?_ ?_))) <;> (simp only [sx_ev, sx_evl, gs_ofNat, gs_neg] ; omega))⟩
    · rw [if_neg (show ¬ (v0 < g0) by omega)] at hv
      have j5 := j2 rfl
      have v5 := v2 rfl
      have y5 := y1 rfl
      exact ⟨sx_σi [(18, (.ofNat 1, [(18, .ofNat 1)]))] σ, gs_fix_of rfl hf0, gs_cnt_of rfl hc0 hn, gs_none rfl, gs_none rfl, gs_none rfl, gs_none rfl, gs_lo rfl, tv_pb_lt_2_tff a b c d e f g h hLB (gs_F hq0 hf0 hc0 (by (repeat' (first | exact bk_F0 | (refine bk_F1 ?_ ?_))) <;> (simp only [sx_ev, sx_evl, gs_ofNat, gs_neg] ; omega))) (by (repeat' (first | exact gs_t0 | (refine gs_t1 ?_ ?_))) <;> (simp only [sx_ev, sx_evl, gs_ofNat, gs_neg] ; omega))⟩
    · rw [if_neg (show ¬ (v0 < g0) by omega)] at hv
      have j5 := j1 rfl
      have v5 := v2 rfl
      have y5 := y1 rfl
      exact ⟨sx_σi [(18, (.ofNat 1, [(18, .ofNat 1)]))] σ, gs_fix_of rfl hf0, gs_cnt_of rfl hc0 hn, gs_none rfl, gs_none rfl, gs_none rfl, gs_none rfl, gs_lo rfl, tv_pb_lt_2_tft a b c d e f g h hLB (gs_F hq0 hf0 hc0 (by (repeat' (first | exact bk_F0 | (refine bk_F1 ?_ ?_))) <;> (simp only [sx_ev, sx_evl, gs_ofNat, gs_neg] ; omega))) (by (repeat' (first | exact gs_t0 | (refine gs_t1 ?_ ?_))) <;> (simp only [sx_ev, sx_evl, gs_ofNat, gs_neg] ; omega))⟩
    · rw [if_neg (show ¬ (v0 < g0) by omega)] at hv
      have j5 := j2 rfl
      have v5 := v1 rfl
      exact ⟨sx_σi [(18, (.ofNat 1, [(18, .ofNat 1)]))] σ, gs_fix_of rfl hf0, gs_cnt_of rfl hc0 hn, gs_none rfl, gs_none rfl, gs_none rfl, gs_none rfl, gs_lo rfl, tv_pb_lt_2_ttf a b c d e f g h hLB (gs_F hq0 hf0 hc0 (by (repeat' (first | exact bk_F0 | (refine bk_F1 ?_ ?_))) <;> (simp only [sx_ev, sx_evl, gs_ofNat, gs_neg] ; omega))) (by (repeat' (first | exact gs_t0 | (refine gs_t1 ?_ ?_))) <;> (simp only [sx_ev, sx_evl, gs_ofNat, gs_neg] ; omega))⟩
    · rw [if_neg (show ¬ (v0 < g0) by omega)] at hv
      have j5 := j1 rfl
      have v5 := v1 rfl
      exact ⟨sx_σi [(18, (.ofNat 1, [(18, .ofNat 1)]))] σ, gs_fix_of rfl hf0, gs_cnt_of rfl hc0 hn, gs_none rfl, gs_none rfl, gs_none rfl, gs_none rfl, gs_lo rfl, tv_pb_lt_2_ttt a b c d e f g h hLB (gs_F hq0 hf0 hc0 (by (repeat' (first | exact bk_F0 | (refine bk_F1 ?_ ?_))) <;> (simp only [sx_ev, sx_evl, gs_ofNat, gs_neg] ; omega))) (by (repeat' (first | exact gs_t0 | (refine gs_t1 ?_ ?_))) <;> (simp only [sx_ev, sx_evl, gs_ofNat, gs_neg] ; omega))⟩
  · rcases Int.lt_trichotomy v0 g0 with ho | ho | ho <;> cases y <;> cases v <;> cases j
    · rw [if_neg (show ¬ (v0 ≥ g0) by omega)] at hv
      have j5 := j2 rfl
      have v5 := v2 rfl
      have y5 := y2 rfl
      exact ⟨sx_σi [(18, (.ofNat 1, [(18, .ofNat 1)]))] σ, gs_fix_of rfl hf0, gs_cnt_of rfl hc0 hn, gs_none rfl, gs_none rfl, gs_none rfl, gs_none rfl, gs_lo rfl, tv_pb_ge_0_fff a b c d e f g h hLB (gs_F hq0 hf0 hc0 (by (repeat' (first | exact bk_F0 | (refine bk_F1 ?_ ?_))) <;> (simp only [sx_ev, sx_evl, gs_ofNat, gs_neg] ; omega))) (by (repeat' (first | exact gs_t0 | (refine gs_t1 ?_ ?_))) <;> (simp only [sx_ev, sx_evl, gs_ofNat, gs_neg] ; omega))⟩
    · rw [if_neg (show ¬ (v0 ≥ g0) by omega)] at hv
      have j5 := j1 rfl
      have v5 := v2 rfl
      have y5 := y2 rfl
      exact ⟨sx_σi [(18, (.ofNat 1, [(18, .ofNat 1)]))] σ, gs_fix_of rfl hf0, gs_cnt_of rfl hc0 hn, gs_none rfl, gs_none rfl, gs_none rfl, gs_none rfl, gs_lo rfl, tv_pb_ge_0_fft a b c d e f g h hLB (gs_F hq0 hf0 hc0 (by (repeat' (first | exact bk_F0 | (refine bk_F1 ?_ ?_))) <;> (simp only [sx_ev, sx_evl, gs_ofNat, gs_neg] ; omega))) (by (repeat' (first | exact gs_t0 | (refine gs_t1 ?_ ?_))) <;> (simp only [sx_ev, sx_evl, gs_ofNat, gs_neg] ; omega))⟩
    · rw [if_neg (show ¬ (v0 ≥ g0) by omega)] at hv
      have j5 := j2 rfl
      have v5 := v1 rfl
      exact ⟨sx_σi [(18, (.ofNat 1, [(18, .ofNat 1)]))] σ, gs_fix_of rfl hf0, gs_cnt_of rfl hc0 hn, gs_none rfl, gs_none rfl, gs_none rfl, gs_none rfl, gs_lo rfl, tv_pb_ge_0_ftf a b c d e f g h hLB (gs_F hq0 hf0 hc0 (by (repeat' (first | exact bk_F0 | (refine bk_F1 ?_ ?_))) <;> (simp only [sx_ev, sx_evl, gs_ofNat, gs_neg] ; omega))) (by (repeat' (first | exact gs_t0 | (refine gs_t1 ?_ ?_))) <;> (simp only [sx_ev, sx_evl, gs_ofNat, gs_neg] ; omega))⟩
    · rw [if_neg (show ¬ (v0 ≥ g0) by omega)] at hv
      have j5 := j1 rfl
      have v5 := v1 rfl
      exact ⟨sx_σi [(18, (.ofNat 1, [(18, .ofNat 1)]))] σ, gs_fix_of rfl hf0, gs_cnt_of rfl hc0 hn, gs_none rfl, gs_none rfl, gs_none rfl, gs_none rfl, gs_lo rfl, tv_pb_ge_0_ftt a b c d e f g h hLB (gs_F hq0 hf0 hc0 (by (repeat' (first | exact bk_F0 | (refine bk_F1 ?_ ?_))) <;> (simp only [sx_ev, sx_evl, gs_ofNat, gs_neg] ; omega))) (by (repeat' (first | exact gs_t0 | (refine gs_t1 ?_ ?_))) <;> (simp only [sx_ev, sx_evl, gs_ofNat, gs_neg] ; omega))⟩
    · rw [if_neg (show ¬ (v0 ≥ g0) by omega)] at hv
      have j5 := j2 rfl
      have v5 := v2 rfl
      have y5 := y1 rfl
      exact ⟨sx_σi [(18, (.ofNat 1, [(18, .ofNat 1)]))] σ, gs_fix_of rfl hf0, gs_cnt_of rfl hc0 hn, gs_none rfl, gs_none rfl, gs_none rfl, gs_none rfl, gs_lo rfl, tv_pb_ge_0_tff a b c d e f g h hLB (gs_F hq0 hf0 hc0 (by (repeat' (first | exact bk_F0 | (refine bk_F1 ?_ ?_))) <;> (simp only [sx_ev, sx_evl, gs_ofNat, gs_neg] ; omega))) (by (repeat' (first | exact gs_t0 | (refine gs_t1 ?_ ?_))) <;> (simp only [sx_ev, sx_evl, gs_ofNat, gs_neg] ; omega))⟩
    · rw [if_neg (show ¬ (v0 ≥ g0) by omega)] at hv
      have j5 := j1 rfl
      have v5 := v2 rfl
      have y5 := y1 rfl
      exact ⟨sx_σi [(18, (.ofNat 1, [(18, .ofNat 1)]))] σ, gs_fix_of rfl hf0, gs_cnt_of rfl hc0 hn, gs_none rfl, gs_none rfl, gs_none rfl, gs_none rfl, gs_lo rfl, tv_pb_ge_0_tft a b c d e f g h hLB (gs_F hq0 hf0 hc0 (by (repeat' (first | exact bk_F0 | (refine bk_F1 ?_ ?_))) <;> (simp only [sx_ev, sx_evl, gs_ofNat, gs_neg] ; omega))) (by (repeat' (first | exact gs_t0 | (refine gs_t1 ?_ ?_))) <;> (simp only [sx_ev, sx_evl, gs_ofNat, gs_neg] ; omega))⟩
    · rw [if_neg (show ¬ (v0 ≥ g0) by omega)] at hv
      have j5 := j2 rfl
      have v5 := v1 rfl
      exact ⟨sx_σi [(18, (.ofNat 1, [(18, .ofNat 1)]))] σ, gs_fix_of rfl hf0, gs_cnt_of rfl hc0 hn, gs_none rfl, gs_none rfl, gs_none rfl, gs_none rfl, gs_lo rfl, tv_pb_ge_0_ttf a b c d e f g h hLB (gs_F hq0 hf0 hc0 (by (repeat' (first | exact bk_F0 | (refine bk_F1 ?_ ?_))) <;> (simp only [sx_ev, sx_evl, gs_ofNat, gs_neg] ; omega))) (by (repeat' (first | exact gs_t0 | (refine gs_t1 ?_ ?_))) <;> (simp only [sx_ev, sx_evl, gs_ofNat, gs_neg] ; omega))⟩
    · rw [if_neg (show ¬ (v0 ≥ g0) by omega)] at hv
      have j5 := j1 rfl
      have v5 := v1 rfl
      exact ⟨sx_σi [(18, (.ofNat 1, [(18, .ofNat 1)]))] σ, gs_fix_of rfl hf0, gs_cnt_of rfl hc0 hn, gs_none rfl, gs_none rfl, gs_none rfl, gs_none rfl, gs_lo rfl, tv_pb_ge_0_ttt a b c d e f g h hLB (gs_F hq0 hf0 hc0 (by (repeat' (first | exact bk_F0 | (refine bk_F1 ?_ ?_))) <;> (simp only [sx_ev, sx_evl, gs_ofNat, gs_neg] ; omega))) (by (repeat' (first | exact gs_t0 | (refine gs_t1 ?_ ?_))) <;> (simp only [sx_ev, sx_evl, gs_ofNat, gs_neg] ; omega))⟩
    · rw [if_pos (show v0 ≥ g0 by omega)] at hv
      cases hv
    · rw [if_pos (show v0 ≥ g0 by omega)] at hv
      cases hv
    · rw [if_pos (show v0 ≥ g0 by omega)] at hv
      cases hv
    · rw [if_pos (show v0 ≥ g0 by omega)] at hv
      cases hv
    · rw [if_pos (show v0 ≥ g0 by omega)] at hv
      cases hv
    · rw [if_pos (show v0 ≥ g0 by omega)] at hv
      cases hv
    · rw [if_pos (show v0 ≥ g0 by omega)] at hv
      cases hv
    · rw [if_pos (show v0 ≥ g0 by omega)] at hv
      cases hv
    · rw [if_pos (show v0 ≥ g0 by omega)] at hv
      cases hv
    · rw [if_pos (show v0 ≥ g0 by omega)] at hv
      cases hv
    · rw [if_pos (show v0 ≥ g0 by omega)] at hv
      cases hv
    · rw [if_pos (show v0 ≥ g0 by omega)] at hv
      cases hv
    · rw [if_pos (show v0 ≥ g0 by omega)] at hv
      cases hv
    · rw [if_pos (show v0 ≥ g0 by omega)] at hv
      cases hv
    · rw [if_pos (show v0 ≥ g0 by omega)] at hv
      cases hv
    · rw [if_pos (show v0 ≥ g0 by omega)] at hv
      cases hv
  · rcases Int.lt_trichotomy v0 g0 with ho | ho | ho <;> cases y <;> cases v <;> cases j
    · rw [if_pos (show v0 ≠ g0 by omega)] at hv
      cases hv
    · rw [if_pos (show v0 ≠ g0 by omega)] at hv
      cases hv
    · rw [if_pos (show v0 ≠ g0 by omega)] at hv
      cases hv
    · rw [if_pos (show v0 ≠ g0 by omega)] at hv
      cases hv
    · rw [if_pos (show v0 ≠ g0 by omega)] at hv
      cases hv
    · rw [if_pos (show v0 ≠ g0 by omega)] at hv
      cases hv
    · rw [if_pos (show v0 ≠ g0 by omega)] at hv
      cases hv
    · rw [if_pos (show v0 ≠ g0 by omega)] at hv
      cases hv
    · rw [if_neg (show ¬ (v0 ≠ g0) by omega)] at hv
      have j5 := j2 rfl
      have v5 := v2 rfl
      have y5 := y2 rfl
      exact ⟨sx_σi [(18, (.ofNat 1, [(18, .ofNat 1)]))] σ, gs_fix_of rfl hf0, gs_cnt_of rfl hc0 hn, gs_none rfl, gs_none rfl, gs_none rfl, gs_none rfl, gs_lo rfl, tv_pb_ne_1_fff a b c d e f g h hLB (gs_F hq0 hf0 hc0 (by (repeat' (first | exact bk_F0 | (refine bk_F1 ?_ ?_))) <;> (simp only [sx_ev, sx_evl, gs_ofNat, gs_neg] ; omega))) (by (repeat' (first | exact gs_t0 | (refine gs_t1 ?_ ?_))) <;> (simp only [sx_ev, sx_evl, gs_ofNat, gs_neg] ; omega))⟩
    · rw [if_neg (show ¬ (v0 ≠ g0) by omega)] at hv
      have j5 := j1 rfl
      have v5 := v2 rfl
      have y5 := y2 rfl
      exact ⟨sx_σi [(18, (.ofNat 1, [(18, .ofNat 1)]))] σ, gs_fix_of rfl hf0, gs_cnt_of rfl hc0 hn, gs_none rfl, gs_none rfl, gs_none rfl, gs_none rfl, gs_lo rfl, tv_pb_ne_1_fft a b c d e f g h hLB (gs_F hq0 hf0 hc0 (by (repeat' (first | exact bk_F0 | (refine bk_F1 ?_ ?_))) <;> (simp only [sx_ev, sx_evl, gs_ofNat, gs_neg] ; omega))) (by (repeat' (first | exact gs_t0 | (refine gs_t1 ?_ ?_))) <;> (simp only [sx_ev, sx_evl, gs_ofNat, gs_neg] ; omega))⟩
    · rw [if_neg (show ¬ (v0 ≠ g0) by omega)] at hv
      have j5 := j2 rfl
      have v5 := v1 rfl
      exact ⟨sx_σi [(18, (.ofNat 1, [(18, .ofNat 1)]))] σ, gs_fix_of rfl hf0, gs_cnt_of rfl hc0 hn, gs_none rfl, gs_none rfl, gs_none rfl, gs_none rfl, gs_lo rfl, tv_pb_ne_1_ftf a b c d e f g h hLB (gs_F hq0 hf0 hc0 (by (repeat' (first | exact bk_F0 | (refine bk_F1 ?_ ?_))) <;> (simp only [sx_ev, sx_evl, gs_ofNat, gs_neg] ; omega))) (by (repeat' (first | exact gs_t0 | (refine gs_t1 ?_ ?_))) <;> (simp only [sx_ev, sx_evl, gs_ofNat, gs_neg] ; omega))⟩
    · rw [if_neg (show ¬ (v0 ≠ g0) by omega)] at hv
      have j5 := j1 rfl
      have v5 := v1 rfl
      exact ⟨sx_σi [(18, (.ofNat 1, [(18, .ofNat 1)]))] σ, gs_fix_of rfl hf0, gs_cnt_of rfl hc0 hn, gs_none rfl, gs_none rfl, gs_none rfl, gs_none rfl, gs_lo rfl, tv_pb_ne_1_ftt a b c d e f g h hLB (gs_F hq0 hf0 hc0 (by (repeat' (first | exact bk_F0 | (refine bk_F1 ?_ ?_))) <;> (simp only [sx_ev, sx_evl, gs_ofNat, gs_neg] ; omega))) (by (repeat' (first | exact gs_t0 | (refine gs_t1 ?_ ?_))) <;> (simp only [sx_ev, sx_evl, gs_ofNat, gs_neg] ; omega))⟩
    · rw [if_neg (show ¬ (v0 ≠ g0) by omega)] at hv
      have j5 := j2 rfl
      have v5 := v2 rfl
      have y5 := y1 rfl
      exact ⟨sx_σi [(18, (.ofNat 1, [(18, .ofNat 1)]))] σ, gs_fix_of rfl hf0, gs_cnt_of rfl hc0 hn, gs_none rfl, gs_none rfl, gs_none rfl, gs_none rfl, gs_lo rfl, tv_pb_ne_1_tff a b c d e f g h hLB (gs_F hq0 hf0 hc0 (by (repeat' (first | exact bk_F0 | (refine bk_F1 ?_ ?_))) <;> (simp only [sx_ev, sx_evl, gs_ofNat, gs_neg] ; omega))) (by (repeat' (first | exact gs_t0 | (refine gs_t1 ?_ ?_))) <;> (simp only [sx_ev, sx_evl, gs_ofNat, gs_neg] ; omega))⟩
    · rw [if_neg (show ¬ (v0 ≠ g0) by omega)] at hv
      have j5 := j1 rfl
      have v5 := v2 rfl
      have y5 := y1 rfl
      exact ⟨sx_σi [(18, (.ofNat 1, [(18, .ofNat 1)]))] σ, gs_fix_of rfl hf0, gs_cnt_of rfl hc0 hn, gs_none rfl, gs_none rfl, gs_none rfl, gs_none rfl, gs_lo rfl, tv_pb_ne_1_tft a b c d e f g h hLB (gs_F hq0 hf0 hc0 (by (repeat' (first | exact bk_F0 | (refine bk_F1 ?_ ?_))) <;> (simp only [sx_ev, sx_evl, gs_ofNat, gs_neg] ; omega))) (by (repeat' (first | exact gs_t0 | (refine gs_t1 ?_ ?_))) <;> (simp only [sx_ev, sx_evl, gs_ofNat, gs_neg] ; omega))⟩
    · rw [if_neg (show ¬ (v0 ≠ g0) by omega)] at hv
      have j5 := j2 rfl
      have v5 := v1 rfl
      exact ⟨sx_σi [(18, (.ofNat 1, [(18, .ofNat 1)]))] σ, gs_fix_of rfl hf0, gs_cnt_of rfl hc0 hn, gs_none rfl, gs_none rfl, gs_none rfl, gs_none rfl, gs_lo rfl, tv_pb_ne_1_ttf a b c d e f g h hLB (gs_F hq0 hf0 hc0 (by (repeat' (first | exact bk_F0 | (refine bk_F1 ?_ ?_))) <;> (simp only [sx_ev, sx_evl, gs_ofNat, gs_neg] ; omega))) (by (repeat' (first | exact gs_t0 | (refine gs_t1 ?_ ?_))) <;> (simp only [sx_ev, sx_evl, gs_ofNat, gs_neg] ; omega))⟩
    · rw [if_neg (show ¬ (v0 ≠ g0) by omega)] at hv
      have j5 := j1 rfl
      have v5 := v1 rfl
      exact ⟨sx_σi [(18, (.ofNat 1, [(18, .ofNat 1)]))] σ, gs_fix_of rfl hf0, gs_cnt_of rfl hc0 hn, gs_none rfl, gs_none rfl, gs_none rfl, gs_none rfl, gs_lo rfl, tv_pb_ne_1_ttt a b c d e f g h hLB (gs_F hq0 hf0 hc0 (by (repeat' (first | exact bk_F0 | (refine bk_F1 ?_ ?_))) <;> (simp only [sx_ev, sx_evl, gs_ofNat, gs_neg] ; omega))) (by (repeat' (first | exact gs_t0 | (refine gs_t1 ?_ ?_))) <;> (simp only [sx_ev, sx_evl, gs_ofNat, gs_neg] ; omega))⟩
    · rw [if_pos (show v0 ≠ g0 by omega)] at hv
      cases hv
    · rw [if_pos (show v0 ≠ g0 by omega)] at hv
      cases hv
    · rw [if_pos (show v0 ≠ g0 by omega)] at hv
      cases hv
    · rw [if_pos (show v0 ≠ g0 by omega)] at hv
      cases hv
    · rw [if_pos (show v0 ≠ g0 by omega)] at hv
      cases hv
    · rw [if_pos (show v0 ≠ g0 by omega)] at hv
      cases hv
    · rw [if_pos (show v0 ≠ g0 by omega)] at hv
      cases hv
    · rw [if_pos (show v0 ≠ g0 by omega)] at hv
      cases hv
theorem gs_h {q : gs_P} {a b c d e f g h : Bool} {LB : List (Nat × sx_C)} {z : Nat → Nat} {σ : Nat → Int} {n : Int} (hLB : bk_lb LB = true) (hq : gs_ok q) (hb : gs_bits q a b c d e f g h) (hf : gs_fix q σ) (hc : gs_cnt n σ) {y v : Bool} (hn : n + 5 ≤ 3800) : ∃ σ' : Nat → Int, gs_fix q σ' ∧ gs_cnt (n + 5) σ' ∧ σ' 16 = σ 16 ∧ σ' 10 = σ 10 ∧ σ' 13 = σ 13 ∧ σ' 14 = σ 14 ∧ gx_G 40 sm_X8_go 14 560 9 135 z σ (bk_pt 4 xL [] (gp_QA a b c d e f g h y v false LB) 300) σ' (bk_pt 4 xL [] (gp_GV a b c d e f g h y v true LB) 300) := by
  have hf0 := hf
  have hc0 := hc
  have hq0 := hq
  obtain ⟨f1, f2, f3, f4, f5, f6, f7, f8, f9, f10, f11⟩ := hf
  obtain ⟨⟨q1, q2, q3, q4, q5, q6, q7, q8, q9, q10, q11, q12⟩, ⟨q13, q14, q15⟩, ⟨q16, q17, q18⟩, ⟨q19, q20⟩, q21, q22⟩ := hq
  obtain ⟨b1, b2, b3, b4, b5, b6, b7, b8⟩ := hb
  cases g <;> cases h <;> cases y <;> cases v <;> simp only [gs_s] at b7 b8
  · exact ⟨sx_σi [(17, (.negSucc 2, [(17, .ofNat 1)])), (18, (.ofNat 5, [(18, .ofNat 1)])), (19, (.ofNat 3, [(19, .ofNat 1)])), (20, (.ofNat 3, [(20, .ofNat 1)]))] σ, gs_fix_of rfl hf0, gs_cnt_of rfl hc0 hn, gs_none rfl, gs_none rfl, gs_none rfl, gs_none rfl, gs_lo rfl, tv_h_00_ff a b c d e f hLB (gs_F hq0 hf0 hc0 (by (repeat' (first | exact bk_F0 | (refine bk_F1 ?_ ?_))) <;> (simp only [sx_ev, sx_evl, gs_ofNat, gs_neg] ; omega))) (by (repeat' (first | exact gs_t0 | (refine gs_t1 ?_ ?_))) <;> (simp only [sx_ev, sx_evl, gs_ofNat, gs_neg] ; omega))⟩
  · exact ⟨sx_σi [(17, (.negSucc 2, [(17, .ofNat 1)])), (18, (.ofNat 5, [(18, .ofNat 1)])), (19, (.ofNat 3, [(19, .ofNat 1)])), (20, (.ofNat 3, [(20, .ofNat 1)]))] σ, gs_fix_of rfl hf0, gs_cnt_of rfl hc0 hn, gs_none rfl, gs_none rfl, gs_none rfl, gs_none rfl, gs_lo rfl, tv_h_00_ft a b c d e f hLB (gs_F hq0 hf0 hc0 (by (repeat' (first | exact bk_F0 | (refine bk_F1 ?_ ?_))) <;> (simp only [sx_ev, sx_evl, gs_ofNat, gs_neg] ; omega))) (by (repeat' (first | exact gs_t0 | (refine gs_t1 ?_ ?_))) <;> (simp only [sx_ev, sx_evl, gs_ofNat, gs_neg] ; omega))⟩
  · exact ⟨sx_σi [(17, (.negSucc 2, [(17, .ofNat 1)])), (18, (.ofNat 5, [(18, .ofNat 1)])), (19, (.ofNat 3, [(19, .ofNat 1)])), (20, (.ofNat 3, [(20, .ofNat 1)]))] σ, gs_fix_of rfl hf0, gs_cnt_of rfl hc0 hn, gs_none rfl, gs_none rfl, gs_none rfl, gs_none rfl, gs_lo rfl, tv_h_00_tf a b c d e f hLB (gs_F hq0 hf0 hc0 (by (repeat' (first | exact bk_F0 | (refine bk_F1 ?_ ?_))) <;> (simp only [sx_ev, sx_evl, gs_ofNat, gs_neg] ; omega))) (by (repeat' (first | exact gs_t0 | (refine gs_t1 ?_ ?_))) <;> (simp only [sx_ev, sx_evl, gs_ofNat, gs_neg] ; omega))⟩
  · exact ⟨sx_σi [(17, (.negSucc 2, [(17, .ofNat 1)])), (18, (.ofNat 5, [(18, .ofNat 1)])), (19, (.ofNat 3, [(19, .ofNat 1)])), (20, (.ofNat 3, [(20, .ofNat 1)]))] σ, gs_fix_of rfl hf0, gs_cnt_of rfl hc0 hn, gs_none rfl, gs_none rfl, gs_none rfl, gs_none rfl, gs_lo rfl, tv_h_00_tt a b c d e f hLB (gs_F hq0 hf0 hc0 (by (repeat' (first | exact bk_F0 | (refine bk_F1 ?_ ?_))) <;> (simp only [sx_ev, sx_evl, gs_ofNat, gs_neg] ; omega))) (by (repeat' (first | exact gs_t0 | (refine gs_t1 ?_ ?_))) <;> (simp only [sx_ev, sx_evl, gs_ofNat, gs_neg] ; omega))⟩
  · exact ⟨sx_σi [(17, (.negSucc 3, [(17, .ofNat 1)])), (18, (.ofNat 9, [(18, .ofNat 1)])), (19, (.ofNat 4, [(19, .ofNat 1)])), (20, (.ofNat 4, [(20, .ofNat 1)]))] σ, gs_fix_of rfl hf0, gs_cnt_of rfl hc0 hn, gs_none rfl, gs_none rfl, gs_none rfl, gs_none rfl, gs_lo rfl, tv_h_01_ff a b c d e f hLB (gs_F hq0 hf0 hc0 (by (repeat' (first | exact bk_F0 | (refine bk_F1 ?_ ?_))) <;> (simp only [sx_ev, sx_evl, gs_ofNat, gs_neg] ; omega))) (by (repeat' (first | exact gs_t0 | (refine gs_t1 ?_ ?_))) <;> (simp only [sx_ev, sx_evl, gs_ofNat, gs_neg] ; omega))⟩
  · exact ⟨sx_σi [(17, (.negSucc 3, [(17, .ofNat 1)])), (18, (.ofNat 9, [(18, .ofNat 1)])), (19, (.ofNat 4, [(19, .ofNat 1)])), (20, (.ofNat 4, [(20, .ofNat 1)]))] σ, gs_fix_of rfl hf0, gs_cnt_of rfl hc0 hn, gs_none rfl, gs_none rfl, gs_none rfl, gs_none rfl, gs_lo rfl, tv_h_01_ft a b c d e f hLB (gs_F hq0 hf0 hc0 (by (repeat' (first | exact bk_F0 | (refine bk_F1 ?_ ?_))) <;> (simp only [sx_ev, sx_evl, gs_ofNat, gs_neg] ; omega))) (by (repeat' (first | exact gs_t0 | (refine gs_t1 ?_ ?_))) <;> (simp only [sx_ev, sx_evl, gs_ofNat, gs_neg] ; omega))⟩
  · exact ⟨sx_σi [(17, (.negSucc 3, [(17, .ofNat 1)])), (18, (.ofNat 9, [(18, .ofNat 1)])), (19, (.ofNat 4, [(19, .ofNat 1)])), (20, (.ofNat 4, [(20, .ofNat 1)]))] σ, gs_fix_of rfl hf0, gs_cnt_of rfl hc0 hn, gs_none rfl, gs_none rfl, gs_none rfl, gs_none rfl, gs_lo rfl, tv_h_01_tf a b c d e f hLB (gs_F hq0 hf0 hc0 (by (repeat' (first | exact bk_F0 | (refine bk_F1 ?_ ?_))) <;> (simp only [sx_ev, sx_evl, gs_ofNat, gs_neg] ; omega))) (by (repeat' (first | exact gs_t0 | (refine gs_t1 ?_ ?_))) <;> (simp only [sx_ev, sx_evl, gs_ofNat, gs_neg] ; omega))⟩
  · exact ⟨sx_σi [(17, (.negSucc 3, [(17, .ofNat 1)])), (18, (.ofNat 9, [(18, .ofNat 1)])), (19, (.ofNat 4, [(19, .ofNat 1)])), (20, (.ofNat 4, [(20, .ofNat 1)]))] σ, gs_fix_of rfl hf0, gs_cnt_of rfl hc0 hn, gs_none rfl, gs_none rfl, gs_none rfl, gs_none rfl, gs_lo rfl, tv_h_01_tt a b c d e f hLB (gs_F hq0 hf0 hc0 (by (repeat' (first | exact bk_F0 | (refine bk_F1 ?_ ?_))) <;> (simp only [sx_ev, sx_evl, gs_ofNat, gs_neg] ; omega))) (by (repeat' (first | exact gs_t0 | (refine gs_t1 ?_ ?_))) <;> (simp only [sx_ev, sx_evl, gs_ofNat, gs_neg] ; omega))⟩
  · exact ⟨sx_σi [(17, (.negSucc 3, [(17, .ofNat 1)])), (18, (.ofNat 7, [(18, .ofNat 1)])), (19, (.ofNat 4, [(19, .ofNat 1)])), (20, (.ofNat 4, [(20, .ofNat 1)]))] σ, gs_fix_of rfl hf0, gs_cnt_of rfl hc0 hn, gs_none rfl, gs_none rfl, gs_none rfl, gs_none rfl, gs_lo rfl, tv_h_10_ff a b c d e f hLB (gs_F hq0 hf0 hc0 (by (repeat' (first | exact bk_F0 | (refine bk_F1 ?_ ?_))) <;> (simp only [sx_ev, sx_evl, gs_ofNat, gs_neg] ; omega))) (by (repeat' (first | exact gs_t0 | (refine gs_t1 ?_ ?_))) <;> (simp only [sx_ev, sx_evl, gs_ofNat, gs_neg] ; omega))⟩
  · exact ⟨sx_σi [(17, (.negSucc 3, [(17, .ofNat 1)])), (18, (.ofNat 7, [(18, .ofNat 1)])), (19, (.ofNat 4, [(19, .ofNat 1)])), (20, (.ofNat 4, [(20, .ofNat 1)]))] σ, gs_fix_of rfl hf0, gs_cnt_of rfl hc0 hn, gs_none rfl, gs_none rfl, gs_none rfl, gs_none rfl, gs_lo rfl, tv_h_10_ft a b c d e f hLB (gs_F hq0 hf0 hc0 (by (repeat' (first | exact bk_F0 | (refine bk_F1 ?_ ?_))) <;> (simp only [sx_ev, sx_evl, gs_ofNat, gs_neg] ; omega))) (by (repeat' (first | exact gs_t0 | (refine gs_t1 ?_ ?_))) <;> (simp only [sx_ev, sx_evl, gs_ofNat, gs_neg] ; omega))⟩
  · exact ⟨sx_σi [(17, (.negSucc 3, [(17, .ofNat 1)])), (18, (.ofNat 7, [(18, .ofNat 1)])), (19, (.ofNat 4, [(19, .ofNat 1)])), (20, (.ofNat 4, [(20, .ofNat 1)]))] σ, gs_fix_of rfl hf0, gs_cnt_of rfl hc0 hn, gs_none rfl, gs_none rfl, gs_none rfl, gs_none rfl, gs_lo rfl, tv_h_10_tf a b c d e f hLB (gs_F hq0 hf0 hc0 (by (repeat' (first | exact bk_F0 | (refine bk_F1 ?_ ?_))) <;> (simp only [sx_ev, sx_evl, gs_ofNat, gs_neg] ; omega))) (by (repeat' (first | exact gs_t0 | (refine gs_t1 ?_ ?_))) <;> (simp only [sx_ev, sx_evl, gs_ofNat, gs_neg] ; omega))⟩
  · exact ⟨sx_σi [(17, (.negSucc 3, [(17, .ofNat 1)])), (18, (.ofNat 7, [(18, .ofNat 1)])), (19, (.ofNat 4, [(19, .ofNat 1)])), (20, (.ofNat 4, [(20, .ofNat 1)]))] σ, gs_fix_of rfl hf0, gs_cnt_of rfl hc0 hn, gs_none rfl, gs_none rfl, gs_none rfl, gs_none rfl, gs_lo rfl, tv_h_10_tt a b c d e f hLB (gs_F hq0 hf0 hc0 (by (repeat' (first | exact bk_F0 | (refine bk_F1 ?_ ?_))) <;> (simp only [sx_ev, sx_evl, gs_ofNat, gs_neg] ; omega))) (by (repeat' (first | exact gs_t0 | (refine gs_t1 ?_ ?_))) <;> (simp only [sx_ev, sx_evl, gs_ofNat, gs_neg] ; omega))⟩
  · exact ⟨sx_σi [(17, (.negSucc 4, [(17, .ofNat 1)])), (18, (.ofNat 11, [(18, .ofNat 1)])), (19, (.ofNat 5, [(19, .ofNat 1)])), (20, (.ofNat 5, [(20, .ofNat 1)]))] σ, gs_fix_of rfl hf0, gs_cnt_of rfl hc0 hn, gs_none rfl, gs_none rfl, gs_none rfl, gs_none rfl, gs_lo rfl, tv_h_11_ff a b c d e f hLB (gs_F hq0 hf0 hc0 (by (repeat' (first | exact bk_F0 | (refine bk_F1 ?_ ?_))) <;> (simp only [sx_ev, sx_evl, gs_ofNat, gs_neg] ; omega))) (by (repeat' (first | exact gs_t0 | (refine gs_t1 ?_ ?_))) <;> (simp only [sx_ev, sx_evl, gs_ofNat, gs_neg] ; omega))⟩
  · exact ⟨sx_σi [(17, (.negSucc 4, [(17, .ofNat 1)])), (18, (.ofNat 11, [(18, .ofNat 1)])), (19, (.ofNat 5, [(19, .ofNat 1)])), (20, (.ofNat 5, [(20, .ofNat 1)]))] σ, gs_fix_of rfl hf0, gs_cnt_of rfl hc0 hn, gs_none rfl, gs_none rfl, gs_none rfl, gs_none rfl, gs_lo rfl, tv_h_11_ft a b c d e f hLB (gs_F hq0 hf0 hc0 (by (repeat' (first | exact bk_F0 | (refine bk_F1 ?_ ?_))) <;> (simp only [sx_ev, sx_evl, gs_ofNat, gs_neg] ; omega))) (by (repeat' (first | exact gs_t0 | (refine gs_t1 ?_ ?_))) <;> (simp only [sx_ev, sx_evl, gs_ofNat, gs_neg] ; omega))⟩
  · exact ⟨sx_σi [(17, (.negSucc 4, [(17, .ofNat 1)])), (18, (.ofNat 11, [(18, .ofNat 1)])), (19, (.ofNat 5, [(19, .ofNat 1)])), (20, (.ofNat 5, [(20, .ofNat 1)]))] σ, gs_fix_of rfl hf0, gs_cnt_of rfl hc0 hn, gs_none rfl, gs_none rfl, gs_none rfl, gs_none rfl, gs_lo rfl, tv_h_11_tf a b c d e f hLB (gs_F hq0 hf0 hc0 (by (repeat' (first | exact bk_F0 | (refine bk_F1 ?_ ?_))) <;> (simp only [sx_ev, sx_evl, gs_ofNat, gs_neg] ; omega))) (by (repeat' (first | exact gs_t0 | (refine gs_t1 ?_ ?_))) <;> (simp only [sx_ev, sx_evl, gs_ofNat, gs_neg] ; omega))⟩
  · exact ⟨sx_σi [(17, (.negSucc 4, [(17, .ofNat 1)])), (18, (.ofNat 11, [(18, .ofNat 1)])), (19, (.ofNat 5, [(19, .ofNat 1)])), (20, (.ofNat 5, [(20, .ofNat 1)]))] σ, gs_fix_of rfl hf0, gs_cnt_of rfl hc0 hn, gs_none rfl, gs_none rfl, gs_none rfl, gs_none rfl, gs_lo rfl, tv_h_11_tt a b c d e f hLB (gs_F hq0 hf0 hc0 (by (repeat' (first | exact bk_F0 | (refine bk_F1 ?_ ?_))) <;> (simp only [sx_ev, sx_evl, gs_ofNat, gs_neg] ; omega))) (by (repeat' (first | exact gs_t0 | (refine gs_t1 ?_ ?_))) <;> (simp only [sx_ev, sx_evl, gs_ofNat, gs_neg] ; omega))⟩
theorem gs_he {q : gs_P} {a b c d e f g h : Bool} {LB : List (Nat × sx_C)} {z : Nat → Nat} {σ : Nat → Int} {n : Int} (hLB : bk_lb LB = true) (hq : gs_ok q) (hb : gs_bits q a b c d e f g h) (hf : gs_fix q σ) (hc : gs_cnt n σ) {y v : Bool} (hn : n + 4 ≤ 3800) : ∃ σ' : Nat → Int, gs_fix q σ' ∧ gs_cnt (n + 4) σ' ∧ σ' 16 = σ 16 ∧ σ' 10 = σ 10 ∧ σ' 13 = σ 13 ∧ gx_G 40 sm_X8_go 14 560 9 135 z σ (bk_pt 4 xL [] (gp_QA a b c d e f g h y v true LB) 300) σ' (bk_pt 4 xL [] (gp_QY a b c d e f g h y LB) 300) := by
  have hf0 := hf
  have hc0 := hc
  have hq0 := hq
  obtain ⟨f1, f2, f3, f4, f5, f6, f7, f8, f9, f10, f11⟩ := hf
  obtain ⟨⟨q1, q2, q3, q4, q5, q6, q7, q8, q9, q10, q11, q12⟩, ⟨q13, q14, q15⟩, ⟨q16, q17, q18⟩, ⟨q19, q20⟩, q21, q22⟩ := hq
  obtain ⟨b1, b2, b3, b4, b5, b6, b7, b8⟩ := hb
  cases h <;> cases y <;> cases v
  · exact ⟨sx_σi [(17, (.negSucc 2, [(17, .ofNat 1)])), (18, (.ofNat 5, [(18, .ofNat 1)])), (19, (.ofNat 3, [(19, .ofNat 1)])), (20, (.ofNat 3, [(20, .ofNat 1)]))] σ, gs_fix_of rfl hf0, gs_cnt_of rfl hc0 hn, gs_none rfl, gs_none rfl, gs_none rfl, gs_lo rfl, tv_he_0_ff a b c d e f g hLB (gs_F hq0 hf0 hc0 (by (repeat' (first | exact bk_F0 | (refine bk_F1 ?_ ?_))) <;> (simp only [sx_ev, sx_evl, gs_ofNat, gs_neg] ; omega))) (by (repeat' (first | exact gs_t0 | (refine gs_t1 ?_ ?_))) <;> (simp only [sx_ev, sx_evl, gs_ofNat, gs_neg] ; omega))⟩
  · exact ⟨sx_σi [(17, (.negSucc 2, [(17, .ofNat 1)])), (18, (.ofNat 5, [(18, .ofNat 1)])), (19, (.ofNat 3, [(19, .ofNat 1)])), (20, (.ofNat 3, [(20, .ofNat 1)]))] σ, gs_fix_of rfl hf0, gs_cnt_of rfl hc0 hn, gs_none rfl, gs_none rfl, gs_none rfl, gs_lo rfl, tv_he_0_ft a b c d e f g hLB (gs_F hq0 hf0 hc0 (by (repeat' (first | exact bk_F0 | (refine bk_F1 ?_ ?_))) <;> (simp only [sx_ev, sx_evl, gs_ofNat, gs_neg] ; omega))) (by (repeat' (first | exact gs_t0 | (refine gs_t1 ?_ ?_))) <;> (simp only [sx_ev, sx_evl, gs_ofNat, gs_neg] ; omega))⟩
  · exact ⟨sx_σi [(17, (.negSucc 2, [(17, .ofNat 1)])), (18, (.ofNat 5, [(18, .ofNat 1)])), (19, (.ofNat 3, [(19, .ofNat 1)])), (20, (.ofNat 3, [(20, .ofNat 1)]))] σ, gs_fix_of rfl hf0, gs_cnt_of rfl hc0 hn, gs_none rfl, gs_none rfl, gs_none rfl, gs_lo rfl, tv_he_0_tf a b c d e f g hLB (gs_F hq0 hf0 hc0 (by (repeat' (first | exact bk_F0 | (refine bk_F1 ?_ ?_))) <;> (simp only [sx_ev, sx_evl, gs_ofNat, gs_neg] ; omega))) (by (repeat' (first | exact gs_t0 | (refine gs_t1 ?_ ?_))) <;> (simp only [sx_ev, sx_evl, gs_ofNat, gs_neg] ; omega))⟩
  · exact ⟨sx_σi [(17, (.negSucc 2, [(17, .ofNat 1)])), (18, (.ofNat 5, [(18, .ofNat 1)])), (19, (.ofNat 3, [(19, .ofNat 1)])), (20, (.ofNat 3, [(20, .ofNat 1)]))] σ, gs_fix_of rfl hf0, gs_cnt_of rfl hc0 hn, gs_none rfl, gs_none rfl, gs_none rfl, gs_lo rfl, tv_he_0_tt a b c d e f g hLB (gs_F hq0 hf0 hc0 (by (repeat' (first | exact bk_F0 | (refine bk_F1 ?_ ?_))) <;> (simp only [sx_ev, sx_evl, gs_ofNat, gs_neg] ; omega))) (by (repeat' (first | exact gs_t0 | (refine gs_t1 ?_ ?_))) <;> (simp only [sx_ev, sx_evl, gs_ofNat, gs_neg] ; omega))⟩
  · exact ⟨sx_σi [(17, (.negSucc 3, [(17, .ofNat 1)])), (18, (.ofNat 7, [(18, .ofNat 1)])), (19, (.ofNat 4, [(19, .ofNat 1)])), (20, (.ofNat 4, [(20, .ofNat 1)]))] σ, gs_fix_of rfl hf0, gs_cnt_of rfl hc0 hn, gs_none rfl, gs_none rfl, gs_none rfl, gs_lo rfl, tv_he_1_ff a b c d e f g hLB (gs_F hq0 hf0 hc0 (by (repeat' (first | exact bk_F0 | (refine bk_F1 ?_ ?_))) <;> (simp only [sx_ev, sx_evl, gs_ofNat, gs_neg] ; omega))) (by (repeat' (first | exact gs_t0 | (refine gs_t1 ?_ ?_))) <;> (simp only [sx_ev, sx_evl, gs_ofNat, gs_neg] ; omega))⟩
  · exact ⟨sx_σi [(17, (.negSucc 3, [(17, .ofNat 1)])), (18, (.ofNat 7, [(18, .ofNat 1)])), (19, (.ofNat 4, [(19, .ofNat 1)])), (20, (.ofNat 4, [(20, .ofNat 1)]))] σ, gs_fix_of rfl hf0, gs_cnt_of rfl hc0 hn, gs_none rfl, gs_none rfl, gs_none rfl, gs_lo rfl, tv_he_1_ft a b c d e f g hLB (gs_F hq0 hf0 hc0 (by (repeat' (first | exact bk_F0 | (refine bk_F1 ?_ ?_))) <;> (simp only [sx_ev, sx_evl, gs_ofNat, gs_neg] ; omega))) (by (repeat' (first | exact gs_t0 | (refine gs_t1 ?_ ?_))) <;> (simp only [sx_ev, sx_evl, gs_ofNat, gs_neg] ; omega))⟩
  · exact ⟨sx_σi [(17, (.negSucc 3, [(17, .ofNat 1)])), (18, (.ofNat 7, [(18, .ofNat 1)])), (19, (.ofNat 4, [(19, .ofNat 1)])), (20, (.ofNat 4, [(20, .ofNat 1)]))] σ, gs_fix_of rfl hf0, gs_cnt_of rfl hc0 hn, gs_none rfl, gs_none rfl, gs_none rfl, gs_lo rfl, tv_he_1_tf a b c d e f g hLB (gs_F hq0 hf0 hc0 (by (repeat' (first | exact bk_F0 | (refine bk_F1 ?_ ?_))) <;> (simp only [sx_ev, sx_evl, gs_ofNat, gs_neg] ; omega))) (by (repeat' (first | exact gs_t0 | (refine gs_t1 ?_ ?_))) <;> (simp only [sx_ev, sx_evl, gs_ofNat, gs_neg] ; omega))⟩
  · exact ⟨sx_σi [(17, (.negSucc 3, [(17, .ofNat 1)])), (18, (.ofNat 7, [(18, .ofNat 1)])), (19, (.ofNat 4, [(19, .ofNat 1)])), (20, (.ofNat 4, [(20, .ofNat 1)]))] σ, gs_fix_of rfl hf0, gs_cnt_of rfl hc0 hn, gs_none rfl, gs_none rfl, gs_none rfl, gs_lo rfl, tv_he_1_tt a b c d e f g hLB (gs_F hq0 hf0 hc0 (by (repeat' (first | exact bk_F0 | (refine bk_F1 ?_ ?_))) <;> (simp only [sx_ev, sx_evl, gs_ofNat, gs_neg] ; omega))) (by (repeat' (first | exact gs_t0 | (refine gs_t1 ?_ ?_))) <;> (simp only [sx_ev, sx_evl, gs_ofNat, gs_neg] ; omega))⟩
theorem gs_qy {q : gs_P} {a b c d e f g h : Bool} {LB : List (Nat × sx_C)} {z : Nat → Nat} {σ : Nat → Int} {n : Int} (hLB : bk_lb LB = true) (hq : gs_ok q) (hb : gs_bits q a b c d e f g h) (hf : gs_fix q σ) (hc : gs_cnt n σ) {y : Bool} {y0 : Int} (hy : (y = true → σ 13 = y0) ∧ (y = false → y0 = q.d)) (hy1 : -6 ≤ y0 ∧ y0 ≤ 6) (hon : gs_on (y0 + q.t) q.e q.t) (hn : n + 1 ≤ 3800) : ∃ σ' : Nat → Int, gs_fix q σ' ∧ gs_cnt (n + 1) σ' ∧ σ' 16 = σ 16 ∧ σ' 10 = σ 10 ∧ σ' 13 = y0 + q.t ∧ gx_G 40 sm_X8_go 14 560 9 135 z σ (bk_pt 4 xL [] (gp_QY a b c d e f g h y LB) 300) σ' (bk_pt 4 xL [] (gp_QC a b c d e f g h true LB) 300) := by
  have hf0 := hf
  have hc0 := hc
  have hq0 := hq
  obtain ⟨f1, f2, f3, f4, f5, f6, f7, f8, f9, f10, f11⟩ := hf
  obtain ⟨⟨q1, q2, q3, q4, q5, q6, q7, q8, q9, q10, q11, q12⟩, ⟨q13, q14, q15⟩, ⟨q16, q17, q18⟩, ⟨q19, q20⟩, q21, q22⟩ := hq
  obtain ⟨b1, b2, b3, b4, b5, b6, b7, b8⟩ := hb
  obtain ⟨y1, y2⟩ := hy
  obtain ⟨y3, y4⟩ := hy1
  have h9 := hon
  unfold gs_on at h9
  rcases Int.lt_trichotomy (q.e) (y0 + q.t) with ho | ho | ho <;> cases y <;> cases d <;> cases e <;> cases f <;> simp only [gs_s] at b4 b5 b6
  · exfalso
    omega
  · have y5 := y2 rfl
    exact ⟨sx_σi [(13, (.ofNat 0, [(32, .ofNat 1), (34, .ofNat 1)])), (17, (.negSucc 0, [(17, .ofNat 1)])), (18, (.ofNat 2, [(18, .ofNat 1)])), (19, (.ofNat 1, [(19, .ofNat 1)])), (20, (.ofNat 1, [(20, .ofNat 1)]))] σ, gs_fix_of rfl hf0, gs_cnt_of rfl hc0 hn, gs_none rfl, gs_none rfl, (gs_some rfl).trans (by (simp only [sx_ev, sx_evl, gs_ofNat, gs_neg] ; omega)), gs_lo rfl, tv_qy_106_01_m_f a b c g h hLB (gs_F hq0 hf0 hc0 (by (repeat' (first | exact bk_F0 | (refine bk_F1 ?_ ?_))) <;> (simp only [sx_ev, sx_evl, gs_ofNat, gs_neg] ; omega))) (by (repeat' (first | exact gs_t0 | (refine gs_t1 ?_ ?_))) <;> (simp only [sx_ev, sx_evl, gs_ofNat, gs_neg] ; omega))⟩
  · exfalso
    omega
  · have y5 := y2 rfl
    exact ⟨sx_σi [(13, (.ofNat 0, [(32, .ofNat 1), (34, .ofNat 1)])), (17, (.negSucc 0, [(17, .ofNat 1)])), (18, (.ofNat 2, [(18, .ofNat 1)])), (19, (.ofNat 1, [(19, .ofNat 1)])), (20, (.ofNat 1, [(20, .ofNat 1)]))] σ, gs_fix_of rfl hf0, gs_cnt_of rfl hc0 hn, gs_none rfl, gs_none rfl, (gs_some rfl).trans (by (simp only [sx_ev, sx_evl, gs_ofNat, gs_neg] ; omega)), gs_lo rfl, tv_qy_106_11_m_f a b c g h hLB (gs_F hq0 hf0 hc0 (by (repeat' (first | exact bk_F0 | (refine bk_F1 ?_ ?_))) <;> (simp only [sx_ev, sx_evl, gs_ofNat, gs_neg] ; omega))) (by (repeat' (first | exact gs_t0 | (refine gs_t1 ?_ ?_))) <;> (simp only [sx_ev, sx_evl, gs_ofNat, gs_neg] ; omega))⟩
  · exfalso
    omega
  · have y5 := y2 rfl
    exact ⟨sx_σi [(13, (.ofNat 0, [(32, .ofNat 1), (34, .ofNat 1)])), (17, (.negSucc 0, [(17, .ofNat 1)])), (18, (.ofNat 2, [(18, .ofNat 1)])), (19, (.ofNat 1, [(19, .ofNat 1)])), (20, (.ofNat 1, [(20, .ofNat 1)]))] σ, gs_fix_of rfl hf0, gs_cnt_of rfl hc0 hn, gs_none rfl, gs_none rfl, (gs_some rfl).trans (by (simp only [sx_ev, sx_evl, gs_ofNat, gs_neg] ; omega)), gs_lo rfl, tv_qy_231_01_m_t a b c g h hLB (gs_F hq0 hf0 hc0 (by (repeat' (first | exact bk_F0 | (refine bk_F1 ?_ ?_))) <;> (simp only [sx_ev, sx_evl, gs_ofNat, gs_neg] ; omega))) (by (repeat' (first | exact gs_t0 | (refine gs_t1 ?_ ?_))) <;> (simp only [sx_ev, sx_evl, gs_ofNat, gs_neg] ; omega))⟩
  · exfalso
    omega
  · have y5 := y2 rfl
    exact ⟨sx_σi [(13, (.ofNat 0, [(32, .ofNat 1), (34, .ofNat 1)])), (17, (.negSucc 0, [(17, .ofNat 1)])), (18, (.ofNat 2, [(18, .ofNat 1)])), (19, (.ofNat 1, [(19, .ofNat 1)])), (20, (.ofNat 1, [(20, .ofNat 1)]))] σ, gs_fix_of rfl hf0, gs_cnt_of rfl hc0 hn, gs_none rfl, gs_none rfl, (gs_some rfl).trans (by (simp only [sx_ev, sx_evl, gs_ofNat, gs_neg] ; omega)), gs_lo rfl, tv_qy_231_11_m_t a b c g h hLB (gs_F hq0 hf0 hc0 (by (repeat' (first | exact bk_F0 | (refine bk_F1 ?_ ?_))) <;> (simp only [sx_ev, sx_evl, gs_ofNat, gs_neg] ; omega))) (by (repeat' (first | exact gs_t0 | (refine gs_t1 ?_ ?_))) <;> (simp only [sx_ev, sx_evl, gs_ofNat, gs_neg] ; omega))⟩
  · exfalso
    omega
  · have y5 := y1 rfl
    exact ⟨sx_σi [(13, (.ofNat 0, [(13, .ofNat 1), (34, .ofNat 1)])), (17, (.negSucc 0, [(17, .ofNat 1)])), (18, (.ofNat 2, [(18, .ofNat 1)])), (19, (.ofNat 1, [(19, .ofNat 1)])), (20, (.ofNat 1, [(20, .ofNat 1)]))] σ, gs_fix_of rfl hf0, gs_cnt_of rfl hc0 hn, gs_none rfl, gs_none rfl, (gs_some rfl).trans (by (simp only [sx_ev, sx_evl, gs_ofNat, gs_neg] ; omega)), gs_lo rfl, tv_qy_239_01_m_f a b c g h hLB (gs_F hq0 hf0 hc0 (by (repeat' (first | exact bk_F0 | (refine bk_F1 ?_ ?_))) <;> (simp only [sx_ev, sx_evl, gs_ofNat, gs_neg] ; omega))) (by (repeat' (first | exact gs_t0 | (refine gs_t1 ?_ ?_))) <;> (simp only [sx_ev, sx_evl, gs_ofNat, gs_neg] ; omega))⟩
  · exfalso
    omega
  · have y5 := y1 rfl
    exact ⟨sx_σi [(13, (.ofNat 0, [(13, .ofNat 1), (34, .ofNat 1)])), (17, (.negSucc 0, [(17, .ofNat 1)])), (18, (.ofNat 2, [(18, .ofNat 1)])), (19, (.ofNat 1, [(19, .ofNat 1)])), (20, (.ofNat 1, [(20, .ofNat 1)]))] σ, gs_fix_of rfl hf0, gs_cnt_of rfl hc0 hn, gs_none rfl, gs_none rfl, (gs_some rfl).trans (by (simp only [sx_ev, sx_evl, gs_ofNat, gs_neg] ; omega)), gs_lo rfl, tv_qy_239_11_m_f a b c g h hLB (gs_F hq0 hf0 hc0 (by (repeat' (first | exact bk_F0 | (refine bk_F1 ?_ ?_))) <;> (simp only [sx_ev, sx_evl, gs_ofNat, gs_neg] ; omega))) (by (repeat' (first | exact gs_t0 | (refine gs_t1 ?_ ?_))) <;> (simp only [sx_ev, sx_evl, gs_ofNat, gs_neg] ; omega))⟩
  · exfalso
    omega
  · have y5 := y1 rfl
    exact ⟨sx_σi [(13, (.ofNat 0, [(13, .ofNat 1), (34, .ofNat 1)])), (17, (.negSucc 0, [(17, .ofNat 1)])), (18, (.ofNat 2, [(18, .ofNat 1)])), (19, (.ofNat 1, [(19, .ofNat 1)])), (20, (.ofNat 1, [(20, .ofNat 1)]))] σ, gs_fix_of rfl hf0, gs_cnt_of rfl hc0 hn, gs_none rfl, gs_none rfl, (gs_some rfl).trans (by (simp only [sx_ev, sx_evl, gs_ofNat, gs_neg] ; omega)), gs_lo rfl, tv_qy_239_01_m_t a b c g h hLB (gs_F hq0 hf0 hc0 (by (repeat' (first | exact bk_F0 | (refine bk_F1 ?_ ?_))) <;> (simp only [sx_ev, sx_evl, gs_ofNat, gs_neg] ; omega))) (by (repeat' (first | exact gs_t0 | (refine gs_t1 ?_ ?_))) <;> (simp only [sx_ev, sx_evl, gs_ofNat, gs_neg] ; omega))⟩
  · exfalso
    omega
  · have y5 := y1 rfl
    exact ⟨sx_σi [(13, (.ofNat 0, [(13, .ofNat 1), (34, .ofNat 1)])), (17, (.negSucc 0, [(17, .ofNat 1)])), (18, (.ofNat 2, [(18, .ofNat 1)])), (19, (.ofNat 1, [(19, .ofNat 1)])), (20, (.ofNat 1, [(20, .ofNat 1)]))] σ, gs_fix_of rfl hf0, gs_cnt_of rfl hc0 hn, gs_none rfl, gs_none rfl, (gs_some rfl).trans (by (simp only [sx_ev, sx_evl, gs_ofNat, gs_neg] ; omega)), gs_lo rfl, tv_qy_239_11_m_t a b c g h hLB (gs_F hq0 hf0 hc0 (by (repeat' (first | exact bk_F0 | (refine bk_F1 ?_ ?_))) <;> (simp only [sx_ev, sx_evl, gs_ofNat, gs_neg] ; omega))) (by (repeat' (first | exact gs_t0 | (refine gs_t1 ?_ ?_))) <;> (simp only [sx_ev, sx_evl, gs_ofNat, gs_neg] ; omega))⟩
  · have y5 := y2 rfl
    exact ⟨sx_σi [(13, (.ofNat 0, [(32, .ofNat 1), (34, .ofNat 1)])), (17, (.negSucc 0, [(17, .ofNat 1)])), (18, (.ofNat 2, [(18, .ofNat 1)])), (19, (.ofNat 1, [(19, .ofNat 1)])), (20, (.ofNat 1, [(20, .ofNat 1)]))] σ, gs_fix_of rfl hf0, gs_cnt_of rfl hc0 hn, gs_none rfl, gs_none rfl, (gs_some rfl).trans (by (simp only [sx_ev, sx_evl, gs_ofNat, gs_neg] ; omega)), gs_lo rfl, tv_qy_106_00_l_f a b c g h hLB (gs_F hq0 hf0 hc0 (by (repeat' (first | exact bk_F0 | (refine bk_F1 ?_ ?_))) <;> (simp only [sx_ev, sx_evl, gs_ofNat, gs_neg] ; omega))) (by (repeat' (first | exact gs_t0 | (refine gs_t1 ?_ ?_))) <;> (simp only [sx_ev, sx_evl, gs_ofNat, gs_neg] ; omega))⟩
  · have y5 := y2 rfl
    exact ⟨sx_σi [(13, (.ofNat 0, [(32, .ofNat 1), (34, .ofNat 1)])), (17, (.negSucc 0, [(17, .ofNat 1)])), (18, (.ofNat 2, [(18, .ofNat 1)])), (19, (.ofNat 1, [(19, .ofNat 1)])), (20, (.ofNat 1, [(20, .ofNat 1)]))] σ, gs_fix_of rfl hf0, gs_cnt_of rfl hc0 hn, gs_none rfl, gs_none rfl, (gs_some rfl).trans (by (simp only [sx_ev, sx_evl, gs_ofNat, gs_neg] ; omega)), gs_lo rfl, tv_qy_106_01_l_f a b c g h hLB (gs_F hq0 hf0 hc0 (by (repeat' (first | exact bk_F0 | (refine bk_F1 ?_ ?_))) <;> (simp only [sx_ev, sx_evl, gs_ofNat, gs_neg] ; omega))) (by (repeat' (first | exact gs_t0 | (refine gs_t1 ?_ ?_))) <;> (simp only [sx_ev, sx_evl, gs_ofNat, gs_neg] ; omega))⟩
  · have y5 := y2 rfl
    exact ⟨sx_σi [(13, (.ofNat 0, [(32, .ofNat 1), (34, .ofNat 1)])), (17, (.negSucc 0, [(17, .ofNat 1)])), (18, (.ofNat 2, [(18, .ofNat 1)])), (19, (.ofNat 1, [(19, .ofNat 1)])), (20, (.ofNat 1, [(20, .ofNat 1)]))] σ, gs_fix_of rfl hf0, gs_cnt_of rfl hc0 hn, gs_none rfl, gs_none rfl, (gs_some rfl).trans (by (simp only [sx_ev, sx_evl, gs_ofNat, gs_neg] ; omega)), gs_lo rfl, tv_qy_106_10_l_f a b c g h hLB (gs_F hq0 hf0 hc0 (by (repeat' (first | exact bk_F0 | (refine bk_F1 ?_ ?_))) <;> (simp only [sx_ev, sx_evl, gs_ofNat, gs_neg] ; omega))) (by (repeat' (first | exact gs_t0 | (refine gs_t1 ?_ ?_))) <;> (simp only [sx_ev, sx_evl, gs_ofNat, gs_neg] ; omega))⟩
  · have y5 := y2 rfl
    exact ⟨sx_σi [(13, (.ofNat 0, [(32, .ofNat 1), (34, .ofNat 1)])), (17, (.negSucc 0, [(17, .ofNat 1)])), (18, (.ofNat 2, [(18, .ofNat 1)])), (19, (.ofNat 1, [(19, .ofNat 1)])), (20, (.ofNat 1, [(20, .ofNat 1)]))] σ, gs_fix_of rfl hf0, gs_cnt_of rfl hc0 hn, gs_none rfl, gs_none rfl, (gs_some rfl).trans (by (simp only [sx_ev, sx_evl, gs_ofNat, gs_neg] ; omega)), gs_lo rfl, tv_qy_106_11_l_f a b c g h hLB (gs_F hq0 hf0 hc0 (by (repeat' (first | exact bk_F0 | (refine bk_F1 ?_ ?_))) <;> (simp only [sx_ev, sx_evl, gs_ofNat, gs_neg] ; omega))) (by (repeat' (first | exact gs_t0 | (refine gs_t1 ?_ ?_))) <;> (simp only [sx_ev, sx_evl, gs_ofNat, gs_neg] ; omega))⟩
  · have y5 := y2 rfl
    exact ⟨sx_σi [(13, (.ofNat 0, [(32, .ofNat 1), (34, .ofNat 1)])), (17, (.negSucc 0, [(17, .ofNat 1)])), (18, (.ofNat 2, [(18, .ofNat 1)])), (19, (.ofNat 1, [(19, .ofNat 1)])), (20, (.ofNat 1, [(20, .ofNat 1)]))] σ, gs_fix_of rfl hf0, gs_cnt_of rfl hc0 hn, gs_none rfl, gs_none rfl, (gs_some rfl).trans (by (simp only [sx_ev, sx_evl, gs_ofNat, gs_neg] ; omega)), gs_lo rfl, tv_qy_231_00_l_t a b c g h hLB (gs_F hq0 hf0 hc0 (by (repeat' (first | exact bk_F0 | (refine bk_F1 ?_ ?_))) <;> (simp only [sx_ev, sx_evl, gs_ofNat, gs_neg] ; omega))) (by (repeat' (first | exact gs_t0 | (refine gs_t1 ?_ ?_))) <;> (simp only [sx_ev, sx_evl, gs_ofNat, gs_neg] ; omega))⟩
  · have y5 := y2 rfl
    exact ⟨sx_σi [(13, (.ofNat 0, [(32, .ofNat 1), (34, .ofNat 1)])), (17, (.negSucc 0, [(17, .ofNat 1)])), (18, (.ofNat 2, [(18, .ofNat 1)])), (19, (.ofNat 1, [(19, .ofNat 1)])), (20, (.ofNat 1, [(20, .ofNat 1)]))] σ, gs_fix_of rfl hf0, gs_cnt_of rfl hc0 hn, gs_none rfl, gs_none rfl, (gs_some rfl).trans (by (simp only [sx_ev, sx_evl, gs_ofNat, gs_neg] ; omega)), gs_lo rfl, tv_qy_231_01_l_t a b c g h hLB (gs_F hq0 hf0 hc0 (by (repeat' (first | exact bk_F0 | (refine bk_F1 ?_ ?_))) <;> (simp only [sx_ev, sx_evl, gs_ofNat, gs_neg] ; omega))) (by (repeat' (first | exact gs_t0 | (refine gs_t1 ?_ ?_))) <;> (simp only [sx_ev, sx_evl, gs_ofNat, gs_neg] ; omega))⟩
  · have y5 := y2 rfl
    exact ⟨sx_σi [(13, (.ofNat 0, [(32, .ofNat 1), (34, .ofNat 1)])), (17, (.negSucc 0, [(17, .ofNat 1)])), (18, (.ofNat 2, [(18, .ofNat 1)])), (19, (.ofNat 1, [(19, .ofNat 1)])), (20, (.ofNat 1, [(20, .ofNat 1)]))] σ, gs_fix_of rfl hf0, gs_cnt_of rfl hc0 hn, gs_none rfl, gs_none rfl, (gs_some rfl).trans (by (simp only [sx_ev, sx_evl, gs_ofNat, gs_neg] ; omega)), gs_lo rfl, tv_qy_231_10_l_t a b c g h hLB (gs_F hq0 hf0 hc0 (by (repeat' (first | exact bk_F0 | (refine bk_F1 ?_ ?_))) <;> (simp only [sx_ev, sx_evl, gs_ofNat, gs_neg] ; omega))) (by (repeat' (first | exact gs_t0 | (refine gs_t1 ?_ ?_))) <;> (simp only [sx_ev, sx_evl, gs_ofNat, gs_neg] ; omega))⟩
  · have y5 := y2 rfl
    exact ⟨sx_σi [(13, (.ofNat 0, [(32, .ofNat 1), (34, .ofNat 1)])), (17, (.negSucc 0, [(17, .ofNat 1)])), (18, (.ofNat 2, [(18, .ofNat 1)])), (19, (.ofNat 1, [(19, .ofNat 1)])), (20, (.ofNat 1, [(20, .ofNat 1)]))] σ, gs_fix_of rfl hf0, gs_cnt_of rfl hc0 hn, gs_none rfl, gs_none rfl, (gs_some rfl).trans (by (simp only [sx_ev, sx_evl, gs_ofNat, gs_neg] ; omega)), gs_lo rfl, tv_qy_231_11_l_t a b c g h hLB (gs_F hq0 hf0 hc0 (by (repeat' (first | exact bk_F0 | (refine bk_F1 ?_ ?_))) <;> (simp only [sx_ev, sx_evl, gs_ofNat, gs_neg] ; omega))) (by (repeat' (first | exact gs_t0 | (refine gs_t1 ?_ ?_))) <;> (simp only [sx_ev, sx_evl, gs_ofNat, gs_neg] ; omega))⟩
  · have y5 := y1 rfl
    exact ⟨sx_σi [(13, (.ofNat 0, [(13, .ofNat 1), (34, .ofNat 1)])), (17, (.negSucc 0, [(17, .ofNat 1)])), (18, (.ofNat 2, [(18, .ofNat 1)])), (19, (.ofNat 1, [(19, .ofNat 1)])), (20, (.ofNat 1, [(20, .ofNat 1)]))] σ, gs_fix_of rfl hf0, gs_cnt_of rfl hc0 hn, gs_none rfl, gs_none rfl, (gs_some rfl).trans (by (simp only [sx_ev, sx_evl, gs_ofNat, gs_neg] ; omega)), gs_lo rfl, tv_qy_239_00_l_f a b c g h hLB (gs_F hq0 hf0 hc0 (by (repeat' (first | exact bk_F0 | (refine bk_F1 ?_ ?_))) <;> (simp only [sx_ev, sx_evl, gs_ofNat, gs_neg] ; omega))) (by (repeat' (first | exact gs_t0 | (refine gs_t1 ?_ ?_))) <;> (simp only [sx_ev, sx_evl, gs_ofNat, gs_neg] ; omega))⟩
  · have y5 := y1 rfl
    exact ⟨sx_σi [(13, (.ofNat 0, [(13, .ofNat 1), (34, .ofNat 1)])), (17, (.negSucc 0, [(17, .ofNat 1)])), (18, (.ofNat 2, [(18, .ofNat 1)])), (19, (.ofNat 1, [(19, .ofNat 1)])), (20, (.ofNat 1, [(20, .ofNat 1)]))] σ, gs_fix_of rfl hf0, gs_cnt_of rfl hc0 hn, gs_none rfl, gs_none rfl, (gs_some rfl).trans (by (simp only [sx_ev, sx_evl, gs_ofNat, gs_neg] ; omega)), gs_lo rfl, tv_qy_239_01_l_f a b c g h hLB (gs_F hq0 hf0 hc0 (by (repeat' (first | exact bk_F0 | (refine bk_F1 ?_ ?_))) <;> (simp only [sx_ev, sx_evl, gs_ofNat, gs_neg] ; omega))) (by (repeat' (first | exact gs_t0 | (refine gs_t1 ?_ ?_))) <;> (simp only [sx_ev, sx_evl, gs_ofNat, gs_neg] ; omega))⟩
  · have y5 := y1 rfl
    exact ⟨sx_σi [(13, (.ofNat 0, [(13, .ofNat 1), (34, .ofNat 1)])), (17, (.negSucc 0, [(17, .ofNat 1)])), (18, (.ofNat 2, [(18, .ofNat 1)])), (19, (.ofNat 1, [(19, .ofNat 1)])), (20, (.ofNat 1, [(20, .ofNat 1)]))] σ, gs_fix_of rfl hf0, gs_cnt_of rfl hc0 hn, gs_none rfl, gs_none rfl, (gs_some rfl).trans (by (simp only [sx_ev, sx_evl, gs_ofNat, gs_neg] ; omega)), gs_lo rfl, tv_qy_239_10_l_f a b c g h hLB (gs_F hq0 hf0 hc0 (by (repeat' (first | exact bk_F0 | (refine bk_F1 ?_ ?_))) <;> (simp only [sx_ev, sx_evl, gs_ofNat, gs_neg] ; omega))) (by (repeat' (first | exact gs_t0 | (refine gs_t1 ?_ ?_))) <;> (simp only [sx_ev, sx_evl, gs_ofNat, gs_neg] ; omega))⟩
  · have y5 := y1 rfl
    exact ⟨sx_σi [(13, (.ofNat 0, [(13, .ofNat 1), (34, .ofNat 1)])), (17, (.negSucc 0, [(17, .ofNat 1)])), (18, (.ofNat 2, [(18, .ofNat 1)])), (19, (.ofNat 1, [(19, .ofNat 1)])), (20, (.ofNat 1, [(20, .ofNat 1)]))] σ, gs_fix_of rfl hf0, gs_cnt_of rfl hc0 hn, gs_none rfl, gs_none rfl, (gs_some rfl).trans (by (simp only [sx_ev, sx_evl, gs_ofNat, gs_neg] ; omega)), gs_lo rfl, tv_qy_239_11_l_f a b c g h hLB (gs_F hq0 hf0 hc0 (by (repeat' (first | exact bk_F0 | (refine bk_F1 ?_ ?_))) <;> (simp only [sx_ev, sx_evl, gs_ofNat, gs_neg] ; omega))) (by (repeat' (first | exact gs_t0 | (refine gs_t1 ?_ ?_))) <;> (simp only [sx_ev, sx_evl, gs_ofNat, gs_neg] ; omega))⟩
  · have y5 := y1 rfl
    exact ⟨sx_σi [(13, (.ofNat 0, [(13, .ofNat 1), (34, .ofNat 1)])), (17, (.negSucc 0, [(17, .ofNat 1)])), (18, (.ofNat 2, [(18, .ofNat 1)])), (19, (.ofNat 1, [(19, .ofNat 1)])), (20, (.ofNat 1, [(20, .ofNat 1)]))] σ, gs_fix_of rfl hf0, gs_cnt_of rfl hc0 hn, gs_none rfl, gs_none rfl, (gs_some rfl).trans (by (simp only [sx_ev, sx_evl, gs_ofNat, gs_neg] ; omega)), gs_lo rfl, tv_qy_239_00_l_t a b c g h hLB (gs_F hq0 hf0 hc0 (by (repeat' (first | exact bk_F0 | (refine bk_F1 ?_ ?_))) <;> (simp only [sx_ev, sx_evl, gs_ofNat, gs_neg] ; omega))) (by (repeat' (first | exact gs_t0 | (refine gs_t1 ?_ ?_))) <;> (simp only [sx_ev, sx_evl, gs_ofNat, gs_neg] ; omega))⟩
  · have y5 := y1 rfl
    exact ⟨sx_σi [(13, (.ofNat 0, [(13, .ofNat 1), (34, .ofNat 1)])), (17, (.negSucc 0, [(17, .ofNat 1)])), (18, (.ofNat 2, [(18, .ofNat 1)])), (19, (.ofNat 1, [(19, .ofNat 1)])), (20, (.ofNat 1, [(20, .ofNat 1)]))] σ, gs_fix_of rfl hf0, gs_cnt_of rfl hc0 hn, gs_none rfl, gs_none rfl, (gs_some rfl).trans (by (simp only [sx_ev, sx_evl, gs_ofNat, gs_neg] ; omega)), gs_lo rfl, tv_qy_239_01_l_t a b c g h hLB (gs_F hq0 hf0 hc0 (by (repeat' (first | exact bk_F0 | (refine bk_F1 ?_ ?_))) <;> (simp only [sx_ev, sx_evl, gs_ofNat, gs_neg] ; omega))) (by (repeat' (first | exact gs_t0 | (refine gs_t1 ?_ ?_))) <;> (simp only [sx_ev, sx_evl, gs_ofNat, gs_neg] ; omega))⟩
  · have y5 := y1 rfl
    exact ⟨sx_σi [(13, (.ofNat 0, [(13, .ofNat 1), (34, .ofNat 1)])), (17, (.negSucc 0, [(17, .ofNat 1)])), (18, (.ofNat 2, [(18, .ofNat 1)])), (19, (.ofNat 1, [(19, .ofNat 1)])), (20, (.ofNat 1, [(20, .ofNat 1)]))] σ, gs_fix_of rfl hf0, gs_cnt_of rfl hc0 hn, gs_none rfl, gs_none rfl, (gs_some rfl).trans (by (simp only [sx_ev, sx_evl, gs_ofNat, gs_neg] ; omega)), gs_lo rfl, tv_qy_239_10_l_t a b c g h hLB (gs_F hq0 hf0 hc0 (by (repeat' (first | exact bk_F0 | (refine bk_F1 ?_ ?_))) <;> (simp only [sx_ev, sx_evl, gs_ofNat, gs_neg] ; omega))) (by (repeat' (first | exact gs_t0 | (refine gs_t1 ?_ ?_))) <;> (simp only [sx_ev, sx_evl, gs_ofNat, gs_neg] ; omega))⟩
  · have y5 := y1 rfl
    exact ⟨sx_σi [(13, (.ofNat 0, [(13, .ofNat 1), (34, .ofNat 1)])), (17, (.negSucc 0, [(17, .ofNat 1)])), (18, (.ofNat 2, [(18, .ofNat 1)])), (19, (.ofNat 1, [(19, .ofNat 1)])), (20, (.ofNat 1, [(20, .ofNat 1)]))] σ, gs_fix_of rfl hf0, gs_cnt_of rfl hc0 hn, gs_none rfl, gs_none rfl, (gs_some rfl).trans (by (simp only [sx_ev, sx_evl, gs_ofNat, gs_neg] ; omega)), gs_lo rfl, tv_qy_239_11_l_t a b c g h hLB (gs_F hq0 hf0 hc0 (by (repeat' (first | exact bk_F0 | (refine bk_F1 ?_ ?_))) <;> (simp only [sx_ev, sx_evl, gs_ofNat, gs_neg] ; omega))) (by (repeat' (first | exact gs_t0 | (refine gs_t1 ?_ ?_))) <;> (simp only [sx_ev, sx_evl, gs_ofNat, gs_neg] ; omega))⟩
  · have y5 := y2 rfl
    exact ⟨sx_σi [(13, (.ofNat 0, [(32, .ofNat 1), (34, .ofNat 1)])), (17, (.negSucc 0, [(17, .ofNat 1)])), (18, (.ofNat 2, [(18, .ofNat 1)])), (19, (.ofNat 1, [(19, .ofNat 1)])), (20, (.ofNat 1, [(20, .ofNat 1)]))] σ, gs_fix_of rfl hf0, gs_cnt_of rfl hc0 hn, gs_none rfl, gs_none rfl, (gs_some rfl).trans (by (simp only [sx_ev, sx_evl, gs_ofNat, gs_neg] ; omega)), gs_lo rfl, tv_qy_106_00_e_f a b c g h hLB (gs_F hq0 hf0 hc0 (by (repeat' (first | exact bk_F0 | (refine bk_F1 ?_ ?_))) <;> (simp only [sx_ev, sx_evl, gs_ofNat, gs_neg] ; omega))) (by (repeat' (first | exact gs_t0 | (refine gs_t1 ?_ ?_))) <;> (simp only [sx_ev, sx_evl, gs_ofNat, gs_neg] ; omega))⟩
  · exfalso
    omega
  · have y5 := y2 rfl
    exact ⟨sx_σi [(13, (.ofNat 0, [(32, .ofNat 1), (34, .ofNat 1)])), (17, (.negSucc 0, [(17, .ofNat 1)])), (18, (.ofNat 2, [(18, .ofNat 1)])), (19, (.ofNat 1, [(19, .ofNat 1)])), (20, (.ofNat 1, [(20, .ofNat 1)]))] σ, gs_fix_of rfl hf0, gs_cnt_of rfl hc0 hn, gs_none rfl, gs_none rfl, (gs_some rfl).trans (by (simp only [sx_ev, sx_evl, gs_ofNat, gs_neg] ; omega)), gs_lo rfl, tv_qy_106_10_e_f a b c g h hLB (gs_F hq0 hf0 hc0 (by (repeat' (first | exact bk_F0 | (refine bk_F1 ?_ ?_))) <;> (simp only [sx_ev, sx_evl, gs_ofNat, gs_neg] ; omega))) (by (repeat' (first | exact gs_t0 | (refine gs_t1 ?_ ?_))) <;> (simp only [sx_ev, sx_evl, gs_ofNat, gs_neg] ; omega))⟩
  · exfalso
    omega
  · have y5 := y2 rfl
    exact ⟨sx_σi [(13, (.ofNat 0, [(32, .ofNat 1), (34, .ofNat 1)])), (17, (.negSucc 0, [(17, .ofNat 1)])), (18, (.ofNat 2, [(18, .ofNat 1)])), (19, (.ofNat 1, [(19, .ofNat 1)])), (20, (.ofNat 1, [(20, .ofNat 1)]))] σ, gs_fix_of rfl hf0, gs_cnt_of rfl hc0 hn, gs_none rfl, gs_none rfl, (gs_some rfl).trans (by (simp only [sx_ev, sx_evl, gs_ofNat, gs_neg] ; omega)), gs_lo rfl, tv_qy_231_00_e_t a b c g h hLB (gs_F hq0 hf0 hc0 (by (repeat' (first | exact bk_F0 | (refine bk_F1 ?_ ?_))) <;> (simp only [sx_ev, sx_evl, gs_ofNat, gs_neg] ; omega))) (by (repeat' (first | exact gs_t0 | (refine gs_t1 ?_ ?_))) <;> (simp only [sx_ev, sx_evl, gs_ofNat, gs_neg] ; omega))⟩
  · exfalso
    omega
  · have y5 := y2 rfl
    exact ⟨sx_σi [(13, (.ofNat 0, [(32, .ofNat 1), (34, .ofNat 1)])), (17, (.negSucc 0, [(17, .ofNat 1)])), (18, (.ofNat 2, [(18, .ofNat 1)])), (19, (.ofNat 1, [(19, .ofNat 1)])), (20, (.ofNat 1, [(20, .ofNat 1)]))] σ, gs_fix_of rfl hf0, gs_cnt_of rfl hc0 hn, gs_none rfl, gs_none rfl, (gs_some rfl).trans (by (simp only [sx_ev, sx_evl, gs_ofNat, gs_neg] ; omega)), gs_lo rfl, tv_qy_231_10_e_t a b c g h hLB (gs_F hq0 hf0 hc0 (by (repeat' (first | exact bk_F0 | (refine bk_F1 ?_ ?_))) <;> (simp only [sx_ev, sx_evl, gs_ofNat, gs_neg] ; omega))) (by (repeat' (first | exact gs_t0 | (refine gs_t1 ?_ ?_))) <;> (simp only [sx_ev, sx_evl, gs_ofNat, gs_neg] ; omega))⟩
  · exfalso
    omega
  · have y5 := y1 rfl
    exact ⟨sx_σi [(13, (.ofNat 0, [(13, .ofNat 1), (34, .ofNat 1)])), (17, (.negSucc 0, [(17, .ofNat 1)])), (18, (.ofNat 2, [(18, .ofNat 1)])), (19, (.ofNat 1, [(19, .ofNat 1)])), (20, (.ofNat 1, [(20, .ofNat 1)]))] σ, gs_fix_of rfl hf0, gs_cnt_of rfl hc0 hn, gs_none rfl, gs_none rfl, (gs_some rfl).trans (by (simp only [sx_ev, sx_evl, gs_ofNat, gs_neg] ; omega)), gs_lo rfl, tv_qy_239_00_e_f a b c g h hLB (gs_F hq0 hf0 hc0 (by (repeat' (first | exact bk_F0 | (refine bk_F1 ?_ ?_))) <;> (simp only [sx_ev, sx_evl, gs_ofNat, gs_neg] ; omega))) (by (repeat' (first | exact gs_t0 | (refine gs_t1 ?_ ?_))) <;> (simp only [sx_ev, sx_evl, gs_ofNat, gs_neg] ; omega))⟩
  · exfalso
    omega
  · have y5 := y1 rfl
    exact ⟨sx_σi [(13, (.ofNat 0, [(13, .ofNat 1), (34, .ofNat 1)])), (17, (.negSucc 0, [(17, .ofNat 1)])), (18, (.ofNat 2, [(18, .ofNat 1)])), (19, (.ofNat 1, [(19, .ofNat 1)])), (20, (.ofNat 1, [(20, .ofNat 1)]))] σ, gs_fix_of rfl hf0, gs_cnt_of rfl hc0 hn, gs_none rfl, gs_none rfl, (gs_some rfl).trans (by (simp only [sx_ev, sx_evl, gs_ofNat, gs_neg] ; omega)), gs_lo rfl, tv_qy_239_10_e_f a b c g h hLB (gs_F hq0 hf0 hc0 (by (repeat' (first | exact bk_F0 | (refine bk_F1 ?_ ?_))) <;> (simp only [sx_ev, sx_evl, gs_ofNat, gs_neg] ; omega))) (by (repeat' (first | exact gs_t0 | (refine gs_t1 ?_ ?_))) <;> (simp only [sx_ev, sx_evl, gs_ofNat, gs_neg] ; omega))⟩
  · exfalso
    omega
  · have y5 := y1 rfl
    exact ⟨sx_σi [(13, (.ofNat 0, [(13, .ofNat 1), (34, .ofNat 1)])), (17, (.negSucc 0, [(17, .ofNat 1)])), (18, (.ofNat 2, [(18, .ofNat 1)])), (19, (.ofNat 1, [(19, .ofNat 1)])), (20, (.ofNat 1, [(20, .ofNat 1)]))] σ, gs_fix_of rfl hf0, gs_cnt_of rfl hc0 hn, gs_none rfl, gs_none rfl, (gs_some rfl).trans (by (simp only [sx_ev, sx_evl, gs_ofNat, gs_neg] ; omega)), gs_lo rfl, tv_qy_239_00_e_t a b c g h hLB (gs_F hq0 hf0 hc0 (by (repeat' (first | exact bk_F0 | (refine bk_F1 ?_ ?_))) <;> (simp only [sx_ev, sx_evl, gs_ofNat, gs_neg] ; omega))) (by (repeat' (first | exact gs_t0 | (refine gs_t1 ?_ ?_))) <;> (simp only [sx_ev, sx_evl, gs_ofNat, gs_neg] ; omega))⟩
  · exfalso
    omega
  · have y5 := y1 rfl
    exact ⟨sx_σi [(13, (.ofNat 0, [(13, .ofNat 1), (34, .ofNat 1)])), (17, (.negSucc 0, [(17, .ofNat 1)])), (18, (.ofNat 2, [(18, .ofNat 1)])), (19, (.ofNat 1, [(19, .ofNat 1)])), (20, (.ofNat 1, [(20, .ofNat 1)]))] σ, gs_fix_of rfl hf0, gs_cnt_of rfl hc0 hn, gs_none rfl, gs_none rfl, (gs_some rfl).trans (by (simp only [sx_ev, sx_evl, gs_ofNat, gs_neg] ; omega)), gs_lo rfl, tv_qy_239_10_e_t a b c g h hLB (gs_F hq0 hf0 hc0 (by (repeat' (first | exact bk_F0 | (refine bk_F1 ?_ ?_))) <;> (simp only [sx_ev, sx_evl, gs_ofNat, gs_neg] ; omega))) (by (repeat' (first | exact gs_t0 | (refine gs_t1 ?_ ?_))) <;> (simp only [sx_ev, sx_evl, gs_ofNat, gs_neg] ; omega))⟩
  · exfalso
    omega
theorem gs_qyx {q : gs_P} {a b c d e f g h : Bool} {LB : List (Nat × sx_C)} {z : Nat → Nat} {σ : Nat → Int} {n : Int} (hLB : bk_lb LB = true) (hq : gs_ok q) (hb : gs_bits q a b c d e f g h) (hf : gs_fix q σ) (hc : gs_cnt n σ) {y : Bool} {y0 : Int} (hy : (y = true → σ 13 = y0) ∧ (y = false → y0 = q.d)) (hy1 : -6 ≤ y0 ∧ y0 ≤ 6) (hon : ¬ gs_on (y0 + q.t) q.e q.t) (hn : n + 7 ≤ 3800) : ∃ σ' : Nat → Int, gs_fix q σ' ∧ gs_cnt (n + 7) σ' ∧ σ' 16 = σ 16 ∧ σ' 10 = σ 10 ∧ gx_G 40 sm_X8_go 14 560 9 135 z σ (bk_pt 4 xL [] (gp_QY a b c d e f g h y LB) 300) σ' (bk_pt 4 xL [] (gp_QX a b c d e f g h LB) 300) := by
  have hf0 := hf
  have hc0 := hc
  have hq0 := hq
  obtain ⟨f1, f2, f3, f4, f5, f6, f7, f8, f9, f10, f11⟩ := hf
  obtain ⟨⟨q1, q2, q3, q4, q5, q6, q7, q8, q9, q10, q11, q12⟩, ⟨q13, q14, q15⟩, ⟨q16, q17, q18⟩, ⟨q19, q20⟩, q21, q22⟩ := hq
  obtain ⟨b1, b2, b3, b4, b5, b6, b7, b8⟩ := hb
  obtain ⟨y1, y2⟩ := hy
  obtain ⟨y3, y4⟩ := hy1
  have h9 := hon
  unfold gs_on at h9
  rcases Int.lt_trichotomy (q.e) (y0 + q.t) with ho | ho | ho <;> cases y <;> cases d <;> cases e <;> cases f <;> simp only [gs_s] at b4 b5 b6
  · have y5 := y2 rfl
    exact ⟨sx_σi [(17, (.negSucc 3, [(17, .ofNat 1)])), (18, (.ofNat 9, [(18, .ofNat 1)])), (19, (.ofNat 4, [(19, .ofNat 1)])), (20, (.ofNat 4, [(20, .ofNat 1)]))] σ, gs_fix_of rfl hf0, gs_cnt_of rfl hc0 hn, gs_none rfl, gs_none rfl, gs_lo rfl, tv_qyx_000_106 a b c g h hLB (gs_F hq0 hf0 hc0 (by (repeat' (first | exact bk_F0 | (refine bk_F1 ?_ ?_))) <;> (simp only [sx_ev, sx_evl, gs_ofNat, gs_neg] ; omega))) (by (repeat' (first | exact gs_t0 | (refine gs_t1 ?_ ?_))) <;> (simp only [sx_ev, sx_evl, gs_ofNat, gs_neg] ; omega))⟩
  · exfalso
    omega
  · have y5 := y2 rfl
    exact ⟨sx_σi [(17, (.negSucc 4, [(17, .ofNat 1)])), (18, (.ofNat 11, [(18, .ofNat 1)])), (19, (.ofNat 5, [(19, .ofNat 1)])), (20, (.ofNat 5, [(20, .ofNat 1)]))] σ, gs_fix_of rfl hf0, gs_cnt_of rfl hc0 hn, gs_none rfl, gs_none rfl, gs_lo rfl, tv_qyx_010_106 a b c g h hLB (gs_F hq0 hf0 hc0 (by (repeat' (first | exact bk_F0 | (refine bk_F1 ?_ ?_))) <;> (simp only [sx_ev, sx_evl, gs_ofNat, gs_neg] ; omega))) (by (repeat' (first | exact gs_t0 | (refine gs_t1 ?_ ?_))) <;> (simp only [sx_ev, sx_evl, gs_ofNat, gs_neg] ; omega))⟩
  · exfalso
    omega
  · have y5 := y2 rfl
    exact ⟨sx_σi [(17, (.negSucc 4, [(17, .ofNat 1)])), (18, (.ofNat 11, [(18, .ofNat 1)])), (19, (.ofNat 5, [(19, .ofNat 1)])), (20, (.ofNat 5, [(20, .ofNat 1)]))] σ, gs_fix_of rfl hf0, gs_cnt_of rfl hc0 hn, gs_none rfl, gs_none rfl, gs_lo rfl, tv_qyx_100_231 a b c g h hLB (gs_F hq0 hf0 hc0 (by (repeat' (first | exact bk_F0 | (refine bk_F1 ?_ ?_))) <;> (simp only [sx_ev, sx_evl, gs_ofNat, gs_neg] ; omega))) (by (repeat' (first | exact gs_t0 | (refine gs_t1 ?_ ?_))) <;> (simp only [sx_ev, sx_evl, gs_ofNat, gs_neg] ; omega))⟩
  · exfalso
    omega
  · have y5 := y2 rfl
    exact ⟨sx_σi [(17, (.negSucc 5, [(17, .ofNat 1)])), (18, (.ofNat 13, [(18, .ofNat 1)])), (19, (.ofNat 6, [(19, .ofNat 1)])), (20, (.ofNat 6, [(20, .ofNat 1)]))] σ, gs_fix_of rfl hf0, gs_cnt_of rfl hc0 hn, gs_none rfl, gs_none rfl, gs_lo rfl, tv_qyx_110_231 a b c g h hLB (gs_F hq0 hf0 hc0 (by (repeat' (first | exact bk_F0 | (refine bk_F1 ?_ ?_))) <;> (simp only [sx_ev, sx_evl, gs_ofNat, gs_neg] ; omega))) (by (repeat' (first | exact gs_t0 | (refine gs_t1 ?_ ?_))) <;> (simp only [sx_ev, sx_evl, gs_ofNat, gs_neg] ; omega))⟩
  · exfalso
    omega
  · have y5 := y1 rfl
    exact ⟨sx_σi [(17, (.negSucc 3, [(17, .ofNat 1)])), (18, (.ofNat 9, [(18, .ofNat 1)])), (19, (.ofNat 4, [(19, .ofNat 1)])), (20, (.ofNat 4, [(20, .ofNat 1)]))] σ, gs_fix_of rfl hf0, gs_cnt_of rfl hc0 hn, gs_none rfl, gs_none rfl, gs_lo rfl, tv_qyx_000_239 a b c g h hLB (gs_F hq0 hf0 hc0 (by (repeat' (first | exact bk_F0 | (refine bk_F1 ?_ ?_))) <;> (simp only [sx_ev, sx_evl, gs_ofNat, gs_neg] ; omega))) (by (repeat' (first | exact gs_t0 | (refine gs_t1 ?_ ?_))) <;> (simp only [sx_ev, sx_evl, gs_ofNat, gs_neg] ; omega))⟩
  · exfalso
    omega
  · have y5 := y1 rfl
    exact ⟨sx_σi [(17, (.negSucc 4, [(17, .ofNat 1)])), (18, (.ofNat 11, [(18, .ofNat 1)])), (19, (.ofNat 5, [(19, .ofNat 1)])), (20, (.ofNat 5, [(20, .ofNat 1)]))] σ, gs_fix_of rfl hf0, gs_cnt_of rfl hc0 hn, gs_none rfl, gs_none rfl, gs_lo rfl, tv_qyx_010_239 a b c g h hLB (gs_F hq0 hf0 hc0 (by (repeat' (first | exact bk_F0 | (refine bk_F1 ?_ ?_))) <;> (simp only [sx_ev, sx_evl, gs_ofNat, gs_neg] ; omega))) (by (repeat' (first | exact gs_t0 | (refine gs_t1 ?_ ?_))) <;> (simp only [sx_ev, sx_evl, gs_ofNat, gs_neg] ; omega))⟩
  · exfalso
    omega
  · have y5 := y1 rfl
    exact ⟨sx_σi [(17, (.negSucc 4, [(17, .ofNat 1)])), (18, (.ofNat 11, [(18, .ofNat 1)])), (19, (.ofNat 5, [(19, .ofNat 1)])), (20, (.ofNat 5, [(20, .ofNat 1)]))] σ, gs_fix_of rfl hf0, gs_cnt_of rfl hc0 hn, gs_none rfl, gs_none rfl, gs_lo rfl, tv_qyx_100_239 a b c g h hLB (gs_F hq0 hf0 hc0 (by (repeat' (first | exact bk_F0 | (refine bk_F1 ?_ ?_))) <;> (simp only [sx_ev, sx_evl, gs_ofNat, gs_neg] ; omega))) (by (repeat' (first | exact gs_t0 | (refine gs_t1 ?_ ?_))) <;> (simp only [sx_ev, sx_evl, gs_ofNat, gs_neg] ; omega))⟩
  · exfalso
    omega
  · have y5 := y1 rfl
    exact ⟨sx_σi [(17, (.negSucc 5, [(17, .ofNat 1)])), (18, (.ofNat 13, [(18, .ofNat 1)])), (19, (.ofNat 6, [(19, .ofNat 1)])), (20, (.ofNat 6, [(20, .ofNat 1)]))] σ, gs_fix_of rfl hf0, gs_cnt_of rfl hc0 hn, gs_none rfl, gs_none rfl, gs_lo rfl, tv_qyx_110_239 a b c g h hLB (gs_F hq0 hf0 hc0 (by (repeat' (first | exact bk_F0 | (refine bk_F1 ?_ ?_))) <;> (simp only [sx_ev, sx_evl, gs_ofNat, gs_neg] ; omega))) (by (repeat' (first | exact gs_t0 | (refine gs_t1 ?_ ?_))) <;> (simp only [sx_ev, sx_evl, gs_ofNat, gs_neg] ; omega))⟩
  · exfalso
    omega
  · exfalso
    omega
  · exfalso
    omega
  · exfalso
    omega
  · exfalso
    omega
  · exfalso
    omega
  · exfalso
    omega
  · exfalso
    omega
  · exfalso
    omega
  · exfalso
    omega
  · exfalso
    omega
  · exfalso
    omega
  · exfalso
    omega
  · exfalso
    omega
  · exfalso
    omega
  · exfalso
    omega
  · exfalso
    omega
  · exfalso
    omega
  · have y5 := y2 rfl
    exact ⟨sx_σi [(17, (.negSucc 4, [(17, .ofNat 1)])), (18, (.ofNat 11, [(18, .ofNat 1)])), (19, (.ofNat 5, [(19, .ofNat 1)])), (20, (.ofNat 5, [(20, .ofNat 1)]))] σ, gs_fix_of rfl hf0, gs_cnt_of rfl hc0 hn, gs_none rfl, gs_none rfl, gs_lo rfl, tv_qyx_001_106 a b c g h hLB (gs_F hq0 hf0 hc0 (by (repeat' (first | exact bk_F0 | (refine bk_F1 ?_ ?_))) <;> (simp only [sx_ev, sx_evl, gs_ofNat, gs_neg] ; omega))) (by (repeat' (first | exact gs_t0 | (refine gs_t1 ?_ ?_))) <;> (simp only [sx_ev, sx_evl, gs_ofNat, gs_neg] ; omega))⟩
  · exfalso
    omega
  · have y5 := y2 rfl
    exact ⟨sx_σi [(17, (.negSucc 5, [(17, .ofNat 1)])), (18, (.ofNat 13, [(18, .ofNat 1)])), (19, (.ofNat 6, [(19, .ofNat 1)])), (20, (.ofNat 6, [(20, .ofNat 1)]))] σ, gs_fix_of rfl hf0, gs_cnt_of rfl hc0 hn, gs_none rfl, gs_none rfl, gs_lo rfl, tv_qyx_011_106 a b c g h hLB (gs_F hq0 hf0 hc0 (by (repeat' (first | exact bk_F0 | (refine bk_F1 ?_ ?_))) <;> (simp only [sx_ev, sx_evl, gs_ofNat, gs_neg] ; omega))) (by (repeat' (first | exact gs_t0 | (refine gs_t1 ?_ ?_))) <;> (simp only [sx_ev, sx_evl, gs_ofNat, gs_neg] ; omega))⟩
  · exfalso
    omega
  · have y5 := y2 rfl
    exact ⟨sx_σi [(17, (.negSucc 5, [(17, .ofNat 1)])), (18, (.ofNat 13, [(18, .ofNat 1)])), (19, (.ofNat 6, [(19, .ofNat 1)])), (20, (.ofNat 6, [(20, .ofNat 1)]))] σ, gs_fix_of rfl hf0, gs_cnt_of rfl hc0 hn, gs_none rfl, gs_none rfl, gs_lo rfl, tv_qyx_101_231 a b c g h hLB (gs_F hq0 hf0 hc0 (by (repeat' (first | exact bk_F0 | (refine bk_F1 ?_ ?_))) <;> (simp only [sx_ev, sx_evl, gs_ofNat, gs_neg] ; omega))) (by (repeat' (first | exact gs_t0 | (refine gs_t1 ?_ ?_))) <;> (simp only [sx_ev, sx_evl, gs_ofNat, gs_neg] ; omega))⟩
  · exfalso
    omega
  · have y5 := y2 rfl
    exact ⟨sx_σi [(17, (.negSucc 6, [(17, .ofNat 1)])), (18, (.ofNat 15, [(18, .ofNat 1)])), (19, (.ofNat 7, [(19, .ofNat 1)])), (20, (.ofNat 7, [(20, .ofNat 1)]))] σ, gs_fix_of rfl hf0, gs_cnt_of rfl hc0 hn, gs_none rfl, gs_none rfl, gs_lo rfl, tv_qyx_111_231 a b c g h hLB (gs_F hq0 hf0 hc0 (by (repeat' (first | exact bk_F0 | (refine bk_F1 ?_ ?_))) <;> (simp only [sx_ev, sx_evl, gs_ofNat, gs_neg] ; omega))) (by (repeat' (first | exact gs_t0 | (refine gs_t1 ?_ ?_))) <;> (simp only [sx_ev, sx_evl, gs_ofNat, gs_neg] ; omega))⟩
  · exfalso
    omega
  · have y5 := y1 rfl
    exact ⟨sx_σi [(17, (.negSucc 4, [(17, .ofNat 1)])), (18, (.ofNat 11, [(18, .ofNat 1)])), (19, (.ofNat 5, [(19, .ofNat 1)])), (20, (.ofNat 5, [(20, .ofNat 1)]))] σ, gs_fix_of rfl hf0, gs_cnt_of rfl hc0 hn, gs_none rfl, gs_none rfl, gs_lo rfl, tv_qyx_001_239 a b c g h hLB (gs_F hq0 hf0 hc0 (by (repeat' (first | exact bk_F0 | (refine bk_F1 ?_ ?_))) <;> (simp only [sx_ev, sx_evl, gs_ofNat, gs_neg] ; omega))) (by (repeat' (first | exact gs_t0 | (refine gs_t1 ?_ ?_))) <;> (simp only [sx_ev, sx_evl, gs_ofNat, gs_neg] ; omega))⟩
  · exfalso
    omega
  · have y5 := y1 rfl
    exact ⟨sx_σi [(17, (.negSucc 5, [(17, .ofNat 1)])), (18, (.ofNat 13, [(18, .ofNat 1)])), (19, (.ofNat 6, [(19, .ofNat 1)])), (20, (.ofNat 6, [(20, .ofNat 1)]))] σ, gs_fix_of rfl hf0, gs_cnt_of rfl hc0 hn, gs_none rfl, gs_none rfl, gs_lo rfl, tv_qyx_011_239 a b c g h hLB (gs_F hq0 hf0 hc0 (by (repeat' (first | exact bk_F0 | (refine bk_F1 ?_ ?_))) <;> (simp only [sx_ev, sx_evl, gs_ofNat, gs_neg] ; omega))) (by (repeat' (first | exact gs_t0 | (refine gs_t1 ?_ ?_))) <;> (simp only [sx_ev, sx_evl, gs_ofNat, gs_neg] ; omega))⟩
  · exfalso
    omega
  · have y5 := y1 rfl
    exact ⟨sx_σi [(17, (.negSucc 5, [(17, .ofNat 1)])), (18, (.ofNat 13, [(18, .ofNat 1)])), (19, (.ofNat 6, [(19, .ofNat 1)])), (20, (.ofNat 6, [(20, .ofNat 1)]))] σ, gs_fix_of rfl hf0, gs_cnt_of rfl hc0 hn, gs_none rfl, gs_none rfl, gs_lo rfl, tv_qyx_101_239 a b c g h hLB (gs_F hq0 hf0 hc0 (by (repeat' (first | exact bk_F0 | (refine bk_F1 ?_ ?_))) <;> (simp only [sx_ev, sx_evl, gs_ofNat, gs_neg] ; omega))) (by (repeat' (first | exact gs_t0 | (refine gs_t1 ?_ ?_))) <;> (simp only [sx_ev, sx_evl, gs_ofNat, gs_neg] ; omega))⟩
  · exfalso
    omega
  · have y5 := y1 rfl
    exact ⟨sx_σi [(17, (.negSucc 6, [(17, .ofNat 1)])), (18, (.ofNat 15, [(18, .ofNat 1)])), (19, (.ofNat 7, [(19, .ofNat 1)])), (20, (.ofNat 7, [(20, .ofNat 1)]))] σ, gs_fix_of rfl hf0, gs_cnt_of rfl hc0 hn, gs_none rfl, gs_none rfl, gs_lo rfl, tv_qyx_111_239 a b c g h hLB (gs_F hq0 hf0 hc0 (by (repeat' (first | exact bk_F0 | (refine bk_F1 ?_ ?_))) <;> (simp only [sx_ev, sx_evl, gs_ofNat, gs_neg] ; omega))) (by (repeat' (first | exact gs_t0 | (refine gs_t1 ?_ ?_))) <;> (simp only [sx_ev, sx_evl, gs_ofNat, gs_neg] ; omega))⟩
theorem gs_qx {q : gs_P} {a b c d e f g h : Bool} {LB : List (Nat × sx_C)} {z : Nat → Nat} {σ : Nat → Int} {n : Int} (hLB : bk_lb LB = true) (hq : gs_ok q) (hb : gs_bits q a b c d e f g h) (hf : gs_fix q σ) (hc : gs_cnt n σ) (hx : -6 ≤ σ 10 ∧ σ 10 ≤ 6) (hon : gs_on (σ 10 + q.y) q.b q.y) (hn : n + 1 ≤ 3800) : ∃ σ' : Nat → Int, gs_fix q σ' ∧ gs_cnt (n + 1) σ' ∧ σ' 16 = σ 16 ∧ σ' 10 = σ 10 + q.y ∧ gx_G 40 sm_X8_go 14 560 9 135 z σ (bk_pt 4 xL [] (gp_QX a b c d e f g h LB) 300) σ' (bk_pt 4 xL [] (gp_QB a b c d e f g h LB) 300) := by
  have hf0 := hf
  have hc0 := hc
  have hq0 := hq
  obtain ⟨f1, f2, f3, f4, f5, f6, f7, f8, f9, f10, f11⟩ := hf
  obtain ⟨⟨q1, q2, q3, q4, q5, q6, q7, q8, q9, q10, q11, q12⟩, ⟨q13, q14, q15⟩, ⟨q16, q17, q18⟩, ⟨q19, q20⟩, q21, q22⟩ := hq
  obtain ⟨b1, b2, b3, b4, b5, b6, b7, b8⟩ := hb
  obtain ⟨x1, x2⟩ := hx
  have h9 := hon
  unfold gs_on at h9
  rcases Int.lt_trichotomy (q.b) (σ 10 + q.y) with ho | ho | ho <;> cases c <;> simp only [gs_s] at b3
  · exfalso
    omega
  · exact ⟨sx_σi [(10, (.ofNat 0, [(10, .ofNat 1), (12, .ofNat 1)])), (17, (.negSucc 0, [(17, .ofNat 1)])), (18, (.ofNat 2, [(18, .ofNat 1)])), (19, (.ofNat 1, [(19, .ofNat 1)])), (20, (.ofNat 1, [(20, .ofNat 1)]))] σ, gs_fix_of rfl hf0, gs_cnt_of rfl hc0 hn, gs_none rfl, (gs_some rfl).trans (by (simp only [sx_ev, sx_evl, gs_ofNat, gs_neg] ; omega)), gs_lo rfl, tv_qx_1_n1 a b d e f g h hLB (gs_F hq0 hf0 hc0 (by (repeat' (first | exact bk_F0 | (refine bk_F1 ?_ ?_))) <;> (simp only [sx_ev, sx_evl, gs_ofNat, gs_neg] ; omega))) (by (repeat' (first | exact gs_t0 | (refine gs_t1 ?_ ?_))) <;> (simp only [sx_ev, sx_evl, gs_ofNat, gs_neg] ; omega))⟩
  · exact ⟨sx_σi [(10, (.ofNat 0, [(10, .ofNat 1), (12, .ofNat 1)])), (17, (.negSucc 0, [(17, .ofNat 1)])), (18, (.ofNat 2, [(18, .ofNat 1)])), (19, (.ofNat 1, [(19, .ofNat 1)])), (20, (.ofNat 1, [(20, .ofNat 1)]))] σ, gs_fix_of rfl hf0, gs_cnt_of rfl hc0 hn, gs_none rfl, (gs_some rfl).trans (by (simp only [sx_ev, sx_evl, gs_ofNat, gs_neg] ; omega)), gs_lo rfl, tv_qx_0_0 a b d e f g h hLB (gs_F hq0 hf0 hc0 (by (repeat' (first | exact bk_F0 | (refine bk_F1 ?_ ?_))) <;> (simp only [sx_ev, sx_evl, gs_ofNat, gs_neg] ; omega))) (by (repeat' (first | exact gs_t0 | (refine gs_t1 ?_ ?_))) <;> (simp only [sx_ev, sx_evl, gs_ofNat, gs_neg] ; omega))⟩
  · exact ⟨sx_σi [(10, (.ofNat 0, [(10, .ofNat 1), (12, .ofNat 1)])), (17, (.negSucc 0, [(17, .ofNat 1)])), (18, (.ofNat 2, [(18, .ofNat 1)])), (19, (.ofNat 1, [(19, .ofNat 1)])), (20, (.ofNat 1, [(20, .ofNat 1)]))] σ, gs_fix_of rfl hf0, gs_cnt_of rfl hc0 hn, gs_none rfl, (gs_some rfl).trans (by (simp only [sx_ev, sx_evl, gs_ofNat, gs_neg] ; omega)), gs_lo rfl, tv_qx_1_0 a b d e f g h hLB (gs_F hq0 hf0 hc0 (by (repeat' (first | exact bk_F0 | (refine bk_F1 ?_ ?_))) <;> (simp only [sx_ev, sx_evl, gs_ofNat, gs_neg] ; omega))) (by (repeat' (first | exact gs_t0 | (refine gs_t1 ?_ ?_))) <;> (simp only [sx_ev, sx_evl, gs_ofNat, gs_neg] ; omega))⟩
  · exact ⟨sx_σi [(10, (.ofNat 0, [(10, .ofNat 1), (12, .ofNat 1)])), (17, (.negSucc 0, [(17, .ofNat 1)])), (18, (.ofNat 2, [(18, .ofNat 1)])), (19, (.ofNat 1, [(19, .ofNat 1)])), (20, (.ofNat 1, [(20, .ofNat 1)]))] σ, gs_fix_of rfl hf0, gs_cnt_of rfl hc0 hn, gs_none rfl, (gs_some rfl).trans (by (simp only [sx_ev, sx_evl, gs_ofNat, gs_neg] ; omega)), gs_lo rfl, tv_qx_0_1 a b d e f g h hLB (gs_F hq0 hf0 hc0 (by (repeat' (first | exact bk_F0 | (refine bk_F1 ?_ ?_))) <;> (simp only [sx_ev, sx_evl, gs_ofNat, gs_neg] ; omega))) (by (repeat' (first | exact gs_t0 | (refine gs_t1 ?_ ?_))) <;> (simp only [sx_ev, sx_evl, gs_ofNat, gs_neg] ; omega))⟩
  · exfalso
    omega
theorem gs_qxx {q : gs_P} {a b c d e f g h : Bool} {LB : List (Nat × sx_C)} {z : Nat → Nat} {σ : Nat → Int} {n : Int} (hLB : bk_lb LB = true) (hq : gs_ok q) (hb : gs_bits q a b c d e f g h) (hf : gs_fix q σ) (hc : gs_cnt n σ) (hx : -6 ≤ σ 10 ∧ σ 10 ≤ 6) (hon : ¬ gs_on (σ 10 + q.y) q.b q.y) : ∃ σ' : Nat → Int, gx_G 40 sm_X8_go 14 560 9 135 z σ (bk_pt 4 xL [] (gp_QX a b c d e f g h LB) 300) σ' (bk_pt 115 [] [] (gp_END a b c d e f g h LB) 300) := by
  have hf0 := hf
  have hc0 := hc
  have hq0 := hq
  obtain ⟨f1, f2, f3, f4, f5, f6, f7, f8, f9, f10, f11⟩ := hf
  obtain ⟨⟨q1, q2, q3, q4, q5, q6, q7, q8, q9, q10, q11, q12⟩, ⟨q13, q14, q15⟩, ⟨q16, q17, q18⟩, ⟨q19, q20⟩, q21, q22⟩ := hq
  obtain ⟨b1, b2, b3, b4, b5, b6, b7, b8⟩ := hb
  obtain ⟨x1, x2⟩ := hx
  have h9 := hon
  unfold gs_on at h9
  rcases Int.lt_trichotomy (q.b) (σ 10 + q.y) with ho | ho | ho <;> cases a <;> cases b <;> cases c <;> simp only [gs_s] at b1 b2 b3
  · exact ⟨sx_σi [] σ, gs_lo rfl, tv_qxx_000 d e f g h hLB (gs_F hq0 hf0 hc0 (by (repeat' (first | exact bk_F0 | (refine bk_F1 ?_ ?_))) <;> (simp only [sx_ev, sx_evl, gs_ofNat, gs_neg] ; omega))) (by (repeat' (first | exact gs_t0 | (refine gs_t1 ?_ ?_))) <;> (simp only [sx_ev, sx_evl, gs_ofNat, gs_neg] ; omega))⟩
  · exfalso
    omega
  · exact ⟨sx_σi [] σ, gs_lo rfl, tv_qxx_010 d e f g h hLB (gs_F hq0 hf0 hc0 (by (repeat' (first | exact bk_F0 | (refine bk_F1 ?_ ?_))) <;> (simp only [sx_ev, sx_evl, gs_ofNat, gs_neg] ; omega))) (by (repeat' (first | exact gs_t0 | (refine gs_t1 ?_ ?_))) <;> (simp only [sx_ev, sx_evl, gs_ofNat, gs_neg] ; omega))⟩
  · exfalso
    omega
  · exact ⟨sx_σi [] σ, gs_lo rfl, tv_qxx_100 d e f g h hLB (gs_F hq0 hf0 hc0 (by (repeat' (first | exact bk_F0 | (refine bk_F1 ?_ ?_))) <;> (simp only [sx_ev, sx_evl, gs_ofNat, gs_neg] ; omega))) (by (repeat' (first | exact gs_t0 | (refine gs_t1 ?_ ?_))) <;> (simp only [sx_ev, sx_evl, gs_ofNat, gs_neg] ; omega))⟩
  · exfalso
    omega
  · exact ⟨sx_σi [] σ, gs_lo rfl, tv_qxx_110 d e f g h hLB (gs_F hq0 hf0 hc0 (by (repeat' (first | exact bk_F0 | (refine bk_F1 ?_ ?_))) <;> (simp only [sx_ev, sx_evl, gs_ofNat, gs_neg] ; omega))) (by (repeat' (first | exact gs_t0 | (refine gs_t1 ?_ ?_))) <;> (simp only [sx_ev, sx_evl, gs_ofNat, gs_neg] ; omega))⟩
  · exfalso
    omega
  · exfalso
    omega
  · exfalso
    omega
  · exfalso
    omega
  · exfalso
    omega
  · exfalso
    omega
  · exfalso
    omega
  · exfalso
    omega
  · exfalso
    omega
  · exfalso
    omega
  · exact ⟨sx_σi [] σ, gs_lo rfl, tv_qxx_001 d e f g h hLB (gs_F hq0 hf0 hc0 (by (repeat' (first | exact bk_F0 | (refine bk_F1 ?_ ?_))) <;> (simp only [sx_ev, sx_evl, gs_ofNat, gs_neg] ; omega))) (by (repeat' (first | exact gs_t0 | (refine gs_t1 ?_ ?_))) <;> (simp only [sx_ev, sx_evl, gs_ofNat, gs_neg] ; omega))⟩
  · exfalso
    omega
  · exact ⟨sx_σi [] σ, gs_lo rfl, tv_qxx_011 d e f g h hLB (gs_F hq0 hf0 hc0 (by (repeat' (first | exact bk_F0 | (refine bk_F1 ?_ ?_))) <;> (simp only [sx_ev, sx_evl, gs_ofNat, gs_neg] ; omega))) (by (repeat' (first | exact gs_t0 | (refine gs_t1 ?_ ?_))) <;> (simp only [sx_ev, sx_evl, gs_ofNat, gs_neg] ; omega))⟩
  · exfalso
    omega
  · exact ⟨sx_σi [] σ, gs_lo rfl, tv_qxx_101 d e f g h hLB (gs_F hq0 hf0 hc0 (by (repeat' (first | exact bk_F0 | (refine bk_F1 ?_ ?_))) <;> (simp only [sx_ev, sx_evl, gs_ofNat, gs_neg] ; omega))) (by (repeat' (first | exact gs_t0 | (refine gs_t1 ?_ ?_))) <;> (simp only [sx_ev, sx_evl, gs_ofNat, gs_neg] ; omega))⟩
  · exfalso
    omega
  · exact ⟨sx_σi [] σ, gs_lo rfl, tv_qxx_111 d e f g h hLB (gs_F hq0 hf0 hc0 (by (repeat' (first | exact bk_F0 | (refine bk_F1 ?_ ?_))) <;> (simp only [sx_ev, sx_evl, gs_ofNat, gs_neg] ; omega))) (by (repeat' (first | exact gs_t0 | (refine gs_t1 ?_ ?_))) <;> (simp only [sx_ev, sx_evl, gs_ofNat, gs_neg] ; omega))⟩
theorem gs_qr {q : gs_P} {a b c d e f g h : Bool} {LB : List (Nat × sx_C)} {z : Nat → Nat} {σ : Nat → Int} {n : Int} (hLB : bk_lb LB = true) (hq : gs_ok q) (hb : gs_bits q a b c d e f g h) (hf : gs_fix q σ) (hc : gs_cnt n σ) {y v j r : Bool} (hi : 0 ≤ σ 16 ∧ σ 16 ≤ 50) (hn : n + 1 ≤ 3800) : ∃ σ' : Nat → Int, gs_fix q σ' ∧ gs_cnt (n + 1) σ' ∧ σ' 10 = σ 10 ∧ σ' 13 = σ 13 ∧ σ' 14 = σ 14 ∧ σ' 15 = σ 15 ∧ σ' 16 = σ 16 - 1 ∧ gx_G 40 sm_X8_go 14 560 9 135 z σ (bk_pt 4 xL [] (gp_QR a b c d e f g h y v j r LB) 300) σ' (bk_pt 115 [] [] (gp_OPEN a b c d e f g h y v j r LB) 300) := by
  have hf0 := hf
  have hc0 := hc
  have hq0 := hq
  obtain ⟨f1, f2, f3, f4, f5, f6, f7, f8, f9, f10, f11⟩ := hf
  obtain ⟨⟨q1, q2, q3, q4, q5, q6, q7, q8, q9, q10, q11, q12⟩, ⟨q13, q14, q15⟩, ⟨q16, q17, q18⟩, ⟨q19, q20⟩, q21, q22⟩ := hq
  obtain ⟨b1, b2, b3, b4, b5, b6, b7, b8⟩ := hb
  obtain ⟨i1, i2⟩ := hi
  cases y <;> cases v <;> cases j <;> cases r
  · exact ⟨sx_σi [(16, (.negSucc 0, [(16, .ofNat 1)]))] σ, gs_fix_of rfl hf0, gs_cnt_of rfl hc0 hn, gs_none rfl, gs_none rfl, gs_none rfl, gs_none rfl, (gs_some rfl).trans (by (simp only [sx_ev, sx_evl, gs_ofNat, gs_neg] ; omega)), gs_lo rfl, tv_qr_ffff a b c d e f g h hLB (gs_F hq0 hf0 hc0 (by (repeat' (first | exact bk_F0 | (refine bk_F1 ?_ ?_))) <;> (simp only [sx_ev, sx_evl, gs_ofNat, gs_neg] ; omega))) (by (repeat' (first | exact gs_t0 | (refine gs_t1 ?_ ?_))) <;> (simp only [sx_ev, sx_evl, gs_ofNat, gs_neg] ; omega))⟩
  · exact ⟨sx_σi [(16, (.negSucc 0, [(16, .ofNat 1)]))] σ, gs_fix_of rfl hf0, gs_cnt_of rfl hc0 hn, gs_none rfl, gs_none rfl, gs_none rfl, gs_none rfl, (gs_some rfl).trans (by (simp only [sx_ev, sx_evl, gs_ofNat, gs_neg] ; omega)), gs_lo rfl, tv_qr_ffft a b c d e f g h hLB (gs_F hq0 hf0 hc0 (by (repeat' (first | exact bk_F0 | (refine bk_F1 ?_ ?_))) <;> (simp only [sx_ev, sx_evl, gs_ofNat, gs_neg] ; omega))) (by (repeat' (first | exact gs_t0 | (refine gs_t1 ?_ ?_))) <;> (simp only [sx_ev, sx_evl, gs_ofNat, gs_neg] ; omega))⟩
  · exact ⟨sx_σi [(16, (.negSucc 0, [(16, .ofNat 1)]))] σ, gs_fix_of rfl hf0, gs_cnt_of rfl hc0 hn, gs_none rfl, gs_none rfl, gs_none rfl, gs_none rfl, (gs_some rfl).trans (by (simp only [sx_ev, sx_evl, gs_ofNat, gs_neg] ; omega)), gs_lo rfl, tv_qr_fftf a b c d e f g h hLB (gs_F hq0 hf0 hc0 (by (repeat' (first | exact bk_F0 | (refine bk_F1 ?_ ?_))) <;> (simp only [sx_ev, sx_evl, gs_ofNat, gs_neg] ; omega))) (by (repeat' (first | exact gs_t0 | (refine gs_t1 ?_ ?_))) <;> (simp only [sx_ev, sx_evl, gs_ofNat, gs_neg] ; omega))⟩
  · exact ⟨sx_σi [(16, (.negSucc 0, [(16, .ofNat 1)]))] σ, gs_fix_of rfl hf0, gs_cnt_of rfl hc0 hn, gs_none rfl, gs_none rfl, gs_none rfl, gs_none rfl, (gs_some rfl).trans (by (simp only [sx_ev, sx_evl, gs_ofNat, gs_neg] ; omega)), gs_lo rfl, tv_qr_fftt a b c d e f g h hLB (gs_F hq0 hf0 hc0 (by (repeat' (first | exact bk_F0 | (refine bk_F1 ?_ ?_))) <;> (simp only [sx_ev, sx_evl, gs_ofNat, gs_neg] ; omega))) (by (repeat' (first | exact gs_t0 | (refine gs_t1 ?_ ?_))) <;> (simp only [sx_ev, sx_evl, gs_ofNat, gs_neg] ; omega))⟩
  · exact ⟨sx_σi [(16, (.negSucc 0, [(16, .ofNat 1)]))] σ, gs_fix_of rfl hf0, gs_cnt_of rfl hc0 hn, gs_none rfl, gs_none rfl, gs_none rfl, gs_none rfl, (gs_some rfl).trans (by (simp only [sx_ev, sx_evl, gs_ofNat, gs_neg] ; omega)), gs_lo rfl, tv_qr_ftff a b c d e f g h hLB (gs_F hq0 hf0 hc0 (by (repeat' (first | exact bk_F0 | (refine bk_F1 ?_ ?_))) <;> (simp only [sx_ev, sx_evl, gs_ofNat, gs_neg] ; omega))) (by (repeat' (first | exact gs_t0 | (refine gs_t1 ?_ ?_))) <;> (simp only [sx_ev, sx_evl, gs_ofNat, gs_neg] ; omega))⟩
  · exact ⟨sx_σi [(16, (.negSucc 0, [(16, .ofNat 1)]))] σ, gs_fix_of rfl hf0, gs_cnt_of rfl hc0 hn, gs_none rfl, gs_none rfl, gs_none rfl, gs_none rfl, (gs_some rfl).trans (by (simp only [sx_ev, sx_evl, gs_ofNat, gs_neg] ; omega)), gs_lo rfl, tv_qr_ftft a b c d e f g h hLB (gs_F hq0 hf0 hc0 (by (repeat' (first | exact bk_F0 | (refine bk_F1 ?_ ?_))) <;> (simp only [sx_ev, sx_evl, gs_ofNat, gs_neg] ; omega))) (by (repeat' (first | exact gs_t0 | (refine gs_t1 ?_ ?_))) <;> (simp only [sx_ev, sx_evl, gs_ofNat, gs_neg] ; omega))⟩
  · exact ⟨sx_σi [(16, (.negSucc 0, [(16, .ofNat 1)]))] σ, gs_fix_of rfl hf0, gs_cnt_of rfl hc0 hn, gs_none rfl, gs_none rfl, gs_none rfl, gs_none rfl, (gs_some rfl).trans (by (simp only [sx_ev, sx_evl, gs_ofNat, gs_neg] ; omega)), gs_lo rfl, tv_qr_fttf a b c d e f g h hLB (gs_F hq0 hf0 hc0 (by (repeat' (first | exact bk_F0 | (refine bk_F1 ?_ ?_))) <;> (simp only [sx_ev, sx_evl, gs_ofNat, gs_neg] ; omega))) (by (repeat' (first | exact gs_t0 | (refine gs_t1 ?_ ?_))) <;> (simp only [sx_ev, sx_evl, gs_ofNat, gs_neg] ; omega))⟩
  · exact ⟨sx_σi [(16, (.negSucc 0, [(16, .ofNat 1)]))] σ, gs_fix_of rfl hf0, gs_cnt_of rfl hc0 hn, gs_none rfl, gs_none rfl, gs_none rfl, gs_none rfl, (gs_some rfl).trans (by (simp only [sx_ev, sx_evl, gs_ofNat, gs_neg] ; omega)), gs_lo rfl, tv_qr_fttt a b c d e f g h hLB (gs_F hq0 hf0 hc0 (by (repeat' (first | exact bk_F0 | (refine bk_F1 ?_ ?_))) <;> (simp only [sx_ev, sx_evl, gs_ofNat, gs_neg] ; omega))) (by (repeat' (first | exact gs_t0 | (refine gs_t1 ?_ ?_))) <;> (simp only [sx_ev, sx_evl, gs_ofNat, gs_neg] ; omega))⟩
  · exact ⟨sx_σi [(16, (.negSucc 0, [(16, .ofNat 1)]))] σ, gs_fix_of rfl hf0, gs_cnt_of rfl hc0 hn, gs_none rfl, gs_none rfl, gs_none rfl, gs_none rfl, (gs_some rfl).trans (by (simp only [sx_ev, sx_evl, gs_ofNat, gs_neg] ; omega)), gs_lo rfl, tv_qr_tfff a b c d e f g h hLB (gs_F hq0 hf0 hc0 (by (repeat' (first | exact bk_F0 | (refine bk_F1 ?_ ?_))) <;> (simp only [sx_ev, sx_evl, gs_ofNat, gs_neg] ; omega))) (by (repeat' (first | exact gs_t0 | (refine gs_t1 ?_ ?_))) <;> (simp only [sx_ev, sx_evl, gs_ofNat, gs_neg] ; omega))⟩
  · exact ⟨sx_σi [(16, (.negSucc 0, [(16, .ofNat 1)]))] σ, gs_fix_of rfl hf0, gs_cnt_of rfl hc0 hn, gs_none rfl, gs_none rfl, gs_none rfl, gs_none rfl, (gs_some rfl).trans (by (simp only [sx_ev, sx_evl, gs_ofNat, gs_neg] ; omega)), gs_lo rfl, tv_qr_tfft a b c d e f g h hLB (gs_F hq0 hf0 hc0 (by (repeat' (first | exact bk_F0 | (refine bk_F1 ?_ ?_))) <;> (simp only [sx_ev, sx_evl, gs_ofNat, gs_neg] ; omega))) (by (repeat' (first | exact gs_t0 | (refine gs_t1 ?_ ?_))) <;> (simp only [sx_ev, sx_evl, gs_ofNat, gs_neg] ; omega))⟩
  · exact ⟨sx_σi [(16, (.negSucc 0, [(16, .ofNat 1)]))] σ, gs_fix_of rfl hf0, gs_cnt_of rfl hc0 hn, gs_none rfl, gs_none rfl, gs_none rfl, gs_none rfl, (gs_some rfl).trans (by (simp only [sx_ev, sx_evl, gs_ofNat, gs_neg] ; omega)), gs_lo rfl, tv_qr_tftf a b c d e f g h hLB (gs_F hq0 hf0 hc0 (by (repeat' (first | exact bk_F0 | (refine bk_F1 ?_ ?_))) <;> (simp only [sx_ev, sx_evl, gs_ofNat, gs_neg] ; omega))) (by (repeat' (first | exact gs_t0 | (refine gs_t1 ?_ ?_))) <;> (simp only [sx_ev, sx_evl, gs_ofNat, gs_neg] ; omega))⟩
  · exact ⟨sx_σi [(16, (.negSucc 0, [(16, .ofNat 1)]))] σ, gs_fix_of rfl hf0, gs_cnt_of rfl hc0 hn, gs_none rfl, gs_none rfl, gs_none rfl, gs_none rfl, (gs_some rfl).trans (by (simp only [sx_ev, sx_evl, gs_ofNat, gs_neg] ; omega)), gs_lo rfl, tv_qr_tftt a b c d e f g h hLB (gs_F hq0 hf0 hc0 (by (repeat' (first | exact bk_F0 | (refine bk_F1 ?_ ?_))) <;> (simp only [sx_ev, sx_evl, gs_ofNat, gs_neg] ; omega))) (by (repeat' (first | exact gs_t0 | (refine gs_t1 ?_ ?_))) <;> (simp only [sx_ev, sx_evl, gs_ofNat, gs_neg] ; omega))⟩
  · exact ⟨sx_σi [(16, (.negSucc 0, [(16, .ofNat 1)]))] σ, gs_fix_of rfl hf0, gs_cnt_of rfl hc0 hn, gs_none rfl, gs_none rfl, gs_none rfl, gs_none rfl, (gs_some rfl).trans (by (simp only [sx_ev, sx_evl, gs_ofNat, gs_neg] ; omega)), gs_lo rfl, tv_qr_ttff a b c d e f g h hLB (gs_F hq0 hf0 hc0 (by (repeat' (first | exact bk_F0 | (refine bk_F1 ?_ ?_))) <;> (simp only [sx_ev, sx_evl, gs_ofNat, gs_neg] ; omega))) (by (repeat' (first | exact gs_t0 | (refine gs_t1 ?_ ?_))) <;> (simp only [sx_ev, sx_evl, gs_ofNat, gs_neg] ; omega))⟩
  · exact ⟨sx_σi [(16, (.negSucc 0, [(16, .ofNat 1)]))] σ, gs_fix_of rfl hf0, gs_cnt_of rfl hc0 hn, gs_none rfl, gs_none rfl, gs_none rfl, gs_none rfl, (gs_some rfl).trans (by (simp only [sx_ev, sx_evl, gs_ofNat, gs_neg] ; omega)), gs_lo rfl, tv_qr_ttft a b c d e f g h hLB (gs_F hq0 hf0 hc0 (by (repeat' (first | exact bk_F0 | (refine bk_F1 ?_ ?_))) <;> (simp only [sx_ev, sx_evl, gs_ofNat, gs_neg] ; omega))) (by (repeat' (first | exact gs_t0 | (refine gs_t1 ?_ ?_))) <;> (simp only [sx_ev, sx_evl, gs_ofNat, gs_neg] ; omega))⟩
  · exact ⟨sx_σi [(16, (.negSucc 0, [(16, .ofNat 1)]))] σ, gs_fix_of rfl hf0, gs_cnt_of rfl hc0 hn, gs_none rfl, gs_none rfl, gs_none rfl, gs_none rfl, (gs_some rfl).trans (by (simp only [sx_ev, sx_evl, gs_ofNat, gs_neg] ; omega)), gs_lo rfl, tv_qr_tttf a b c d e f g h hLB (gs_F hq0 hf0 hc0 (by (repeat' (first | exact bk_F0 | (refine bk_F1 ?_ ?_))) <;> (simp only [sx_ev, sx_evl, gs_ofNat, gs_neg] ; omega))) (by (repeat' (first | exact gs_t0 | (refine gs_t1 ?_ ?_))) <;> (simp only [sx_ev, sx_evl, gs_ofNat, gs_neg] ; omega))⟩
  · exact ⟨sx_σi [(16, (.negSucc 0, [(16, .ofNat 1)]))] σ, gs_fix_of rfl hf0, gs_cnt_of rfl hc0 hn, gs_none rfl, gs_none rfl, gs_none rfl, gs_none rfl, (gs_some rfl).trans (by (simp only [sx_ev, sx_evl, gs_ofNat, gs_neg] ; omega)), gs_lo rfl, tv_qr_tttt a b c d e f g h hLB (gs_F hq0 hf0 hc0 (by (repeat' (first | exact bk_F0 | (refine bk_F1 ?_ ?_))) <;> (simp only [sx_ev, sx_evl, gs_ofNat, gs_neg] ; omega))) (by (repeat' (first | exact gs_t0 | (refine gs_t1 ?_ ?_))) <;> (simp only [sx_ev, sx_evl, gs_ofNat, gs_neg] ; omega))⟩
theorem gs_ro {q : gs_P} {a b c d e f g h : Bool} {LB : List (Nat × sx_C)} {z : Nat → Nat} {σ : Nat → Int} {n : Int} (hLB : bk_lb LB = true) (hq : gs_ok q) (hb : gs_bits q a b c d e f g h) (hf : gs_fix q σ) (hc : gs_cnt n σ) {y v j r : Bool} (hi : 1 ≤ σ 16 ∧ σ 16 ≤ 50) (hn : n + 2 ≤ 3800) : ∃ σ' : Nat → Int, gs_fix q σ' ∧ gs_cnt (n + 2) σ' ∧ σ' 16 = σ 16 ∧ σ' 10 = σ 10 ∧ σ' 13 = σ 13 ∧ σ' 14 = σ 14 ∧ gx_G 40 sm_X8_go 14 560 9 135 z σ (bk_pt 4 xL [] (gp_RO a b c d e f g h y v j r LB) 300) σ' (bk_pt 4 xL [] (gp_QA a b c d e f g h y v j LB) 300) := by
  have hf0 := hf
  have hc0 := hc
  have hq0 := hq
  obtain ⟨f1, f2, f3, f4, f5, f6, f7, f8, f9, f10, f11⟩ := hf
  obtain ⟨⟨q1, q2, q3, q4, q5, q6, q7, q8, q9, q10, q11, q12⟩, ⟨q13, q14, q15⟩, ⟨q16, q17, q18⟩, ⟨q19, q20⟩, q21, q22⟩ := hq
  obtain ⟨b1, b2, b3, b4, b5, b6, b7, b8⟩ := hb
  obtain ⟨i1, i2⟩ := hi
  cases y <;> cases v <;> cases j <;> cases r
  · exact ⟨sx_σi [(17, (.negSucc 1, [(17, .ofNat 1)])), (18, (.ofNat 2, [(18, .ofNat 1)])), (19, (.ofNat 2, [(19, .ofNat 1)])), (20, (.ofNat 2, [(20, .ofNat 1)]))] σ, gs_fix_of rfl hf0, gs_cnt_of rfl hc0 hn, gs_none rfl, gs_none rfl, gs_none rfl, gs_none rfl, gs_lo rfl, tv_ro_0_fff a b c d e f g h hLB (gs_F hq0 hf0 hc0 (by (repeat' (first | exact bk_F0 | (refine bk_F1 ?_ ?_))) <;> (simp only [sx_ev, sx_evl, gs_ofNat, gs_neg] ; omega))) (by (repeat' (first | exact gs_t0 | (refine gs_t1 ?_ ?_))) <;> (simp only [sx_ev, sx_evl, gs_ofNat, gs_neg] ; omega))⟩
  · exact ⟨sx_σi [(17, (.negSucc 1, [(17, .ofNat 1)])), (18, (.ofNat 2, [(18, .ofNat 1)])), (19, (.ofNat 2, [(19, .ofNat 1)])), (20, (.ofNat 2, [(20, .ofNat 1)]))] σ, gs_fix_of rfl hf0, gs_cnt_of rfl hc0 hn, gs_none rfl, gs_none rfl, gs_none rfl, gs_none rfl, gs_lo rfl, tv_ro_0_fft a b c d e f g h hLB (gs_F hq0 hf0 hc0 (by (repeat' (first | exact bk_F0 | (refine bk_F1 ?_ ?_))) <;> (simp only [sx_ev, sx_evl, gs_ofNat, gs_neg] ; omega))) (by (repeat' (first | exact gs_t0 | (refine gs_t1 ?_ ?_))) <;> (simp only [sx_ev, sx_evl, gs_ofNat, gs_neg] ; omega))⟩
  · exact ⟨sx_σi [(17, (.negSucc 1, [(17, .ofNat 1)])), (18, (.ofNat 2, [(18, .ofNat 1)])), (19, (.ofNat 2, [(19, .ofNat 1)])), (20, (.ofNat 2, [(20, .ofNat 1)]))] σ, gs_fix_of rfl hf0, gs_cnt_of rfl hc0 hn, gs_none rfl, gs_none rfl, gs_none rfl, gs_none rfl, gs_lo rfl, tv_ro_1_fff a b c d e f g h hLB (gs_F hq0 hf0 hc0 (by (repeat' (first | exact bk_F0 | (refine bk_F1 ?_ ?_))) <;> (simp only [sx_ev, sx_evl, gs_ofNat, gs_neg] ; omega))) (by (repeat' (first | exact gs_t0 | (refine gs_t1 ?_ ?_))) <;> (simp only [sx_ev, sx_evl, gs_ofNat, gs_neg] ; omega))⟩
  · exact ⟨sx_σi [(17, (.negSucc 1, [(17, .ofNat 1)])), (18, (.ofNat 2, [(18, .ofNat 1)])), (19, (.ofNat 2, [(19, .ofNat 1)])), (20, (.ofNat 2, [(20, .ofNat 1)]))] σ, gs_fix_of rfl hf0, gs_cnt_of rfl hc0 hn, gs_none rfl, gs_none rfl, gs_none rfl, gs_none rfl, gs_lo rfl, tv_ro_1_fft a b c d e f g h hLB (gs_F hq0 hf0 hc0 (by (repeat' (first | exact bk_F0 | (refine bk_F1 ?_ ?_))) <;> (simp only [sx_ev, sx_evl, gs_ofNat, gs_neg] ; omega))) (by (repeat' (first | exact gs_t0 | (refine gs_t1 ?_ ?_))) <;> (simp only [sx_ev, sx_evl, gs_ofNat, gs_neg] ; omega))⟩
  · exact ⟨sx_σi [(17, (.negSucc 1, [(17, .ofNat 1)])), (18, (.ofNat 2, [(18, .ofNat 1)])), (19, (.ofNat 2, [(19, .ofNat 1)])), (20, (.ofNat 2, [(20, .ofNat 1)]))] σ, gs_fix_of rfl hf0, gs_cnt_of rfl hc0 hn, gs_none rfl, gs_none rfl, gs_none rfl, gs_none rfl, gs_lo rfl, tv_ro_0_ftf a b c d e f g h hLB (gs_F hq0 hf0 hc0 (by (repeat' (first | exact bk_F0 | (refine bk_F1 ?_ ?_))) <;> (simp only [sx_ev, sx_evl, gs_ofNat, gs_neg] ; omega))) (by (repeat' (first | exact gs_t0 | (refine gs_t1 ?_ ?_))) <;> (simp only [sx_ev, sx_evl, gs_ofNat, gs_neg] ; omega))⟩
  · exact ⟨sx_σi [(17, (.negSucc 1, [(17, .ofNat 1)])), (18, (.ofNat 2, [(18, .ofNat 1)])), (19, (.ofNat 2, [(19, .ofNat 1)])), (20, (.ofNat 2, [(20, .ofNat 1)]))] σ, gs_fix_of rfl hf0, gs_cnt_of rfl hc0 hn, gs_none rfl, gs_none rfl, gs_none rfl, gs_none rfl, gs_lo rfl, tv_ro_0_ftt a b c d e f g h hLB (gs_F hq0 hf0 hc0 (by (repeat' (first | exact bk_F0 | (refine bk_F1 ?_ ?_))) <;> (simp only [sx_ev, sx_evl, gs_ofNat, gs_neg] ; omega))) (by (repeat' (first | exact gs_t0 | (refine gs_t1 ?_ ?_))) <;> (simp only [sx_ev, sx_evl, gs_ofNat, gs_neg] ; omega))⟩
  · exact ⟨sx_σi [(17, (.negSucc 1, [(17, .ofNat 1)])), (18, (.ofNat 2, [(18, .ofNat 1)])), (19, (.ofNat 2, [(19, .ofNat 1)])), (20, (.ofNat 2, [(20, .ofNat 1)]))] σ, gs_fix_of rfl hf0, gs_cnt_of rfl hc0 hn, gs_none rfl, gs_none rfl, gs_none rfl, gs_none rfl, gs_lo rfl, tv_ro_1_ftf a b c d e f g h hLB (gs_F hq0 hf0 hc0 (by (repeat' (first | exact bk_F0 | (refine bk_F1 ?_ ?_))) <;> (simp only [sx_ev, sx_evl, gs_ofNat, gs_neg] ; omega))) (by (repeat' (first | exact gs_t0 | (refine gs_t1 ?_ ?_))) <;> (simp only [sx_ev, sx_evl, gs_ofNat, gs_neg] ; omega))⟩
  · exact ⟨sx_σi [(17, (.negSucc 1, [(17, .ofNat 1)])), (18, (.ofNat 2, [(18, .ofNat 1)])), (19, (.ofNat 2, [(19, .ofNat 1)])), (20, (.ofNat 2, [(20, .ofNat 1)]))] σ, gs_fix_of rfl hf0, gs_cnt_of rfl hc0 hn, gs_none rfl, gs_none rfl, gs_none rfl, gs_none rfl, gs_lo rfl, tv_ro_1_ftt a b c d e f g h hLB (gs_F hq0 hf0 hc0 (by (repeat' (first | exact bk_F0 | (refine bk_F1 ?_ ?_))) <;> (simp only [sx_ev, sx_evl, gs_ofNat, gs_neg] ; omega))) (by (repeat' (first | exact gs_t0 | (refine gs_t1 ?_ ?_))) <;> (simp only [sx_ev, sx_evl, gs_ofNat, gs_neg] ; omega))⟩
  · exact ⟨sx_σi [(17, (.negSucc 1, [(17, .ofNat 1)])), (18, (.ofNat 2, [(18, .ofNat 1)])), (19, (.ofNat 2, [(19, .ofNat 1)])), (20, (.ofNat 2, [(20, .ofNat 1)]))] σ, gs_fix_of rfl hf0, gs_cnt_of rfl hc0 hn, gs_none rfl, gs_none rfl, gs_none rfl, gs_none rfl, gs_lo rfl, tv_ro_0_tff a b c d e f g h hLB (gs_F hq0 hf0 hc0 (by (repeat' (first | exact bk_F0 | (refine bk_F1 ?_ ?_))) <;> (simp only [sx_ev, sx_evl, gs_ofNat, gs_neg] ; omega))) (by (repeat' (first | exact gs_t0 | (refine gs_t1 ?_ ?_))) <;> (simp only [sx_ev, sx_evl, gs_ofNat, gs_neg] ; omega))⟩
  · exact ⟨sx_σi [(17, (.negSucc 1, [(17, .ofNat 1)])), (18, (.ofNat 2, [(18, .ofNat 1)])), (19, (.ofNat 2, [(19, .ofNat 1)])), (20, (.ofNat 2, [(20, .ofNat 1)]))] σ, gs_fix_of rfl hf0, gs_cnt_of rfl hc0 hn, gs_none rfl, gs_none rfl, gs_none rfl, gs_none rfl, gs_lo rfl, tv_ro_0_tft a b c d e f g h hLB (gs_F hq0 hf0 hc0 (by (repeat' (first | exact bk_F0 | (refine bk_F1 ?_ ?_))) <;> (simp only [sx_ev, sx_evl, gs_ofNat, gs_neg] ; omega))) (by (repeat' (first | exact gs_t0 | (refine gs_t1 ?_ ?_))) <;> (simp only [sx_ev, sx_evl, gs_ofNat, gs_neg] ; omega))⟩
  · exact ⟨sx_σi [(17, (.negSucc 1, [(17, .ofNat 1)])), (18, (.ofNat 2, [(18, .ofNat 1)])), (19, (.ofNat 2, [(19, .ofNat 1)])), (20, (.ofNat 2, [(20, .ofNat 1)]))] σ, gs_fix_of rfl hf0, gs_cnt_of rfl hc0 hn, gs_none rfl, gs_none rfl, gs_none rfl, gs_none rfl, gs_lo rfl, tv_ro_1_tff a b c d e f g h hLB (gs_F hq0 hf0 hc0 (by (repeat' (first | exact bk_F0 | (refine bk_F1 ?_ ?_))) <;> (simp only [sx_ev, sx_evl, gs_ofNat, gs_neg] ; omega))) (by (repeat' (first | exact gs_t0 | (refine gs_t1 ?_ ?_))) <;> (simp only [sx_ev, sx_evl, gs_ofNat, gs_neg] ; omega))⟩
  · exact ⟨sx_σi [(17, (.negSucc 1, [(17, .ofNat 1)])), (18, (.ofNat 2, [(18, .ofNat 1)])), (19, (.ofNat 2, [(19, .ofNat 1)])), (20, (.ofNat 2, [(20, .ofNat 1)]))] σ, gs_fix_of rfl hf0, gs_cnt_of rfl hc0 hn, gs_none rfl, gs_none rfl, gs_none rfl, gs_none rfl, gs_lo rfl, tv_ro_1_tft a b c d e f g h hLB (gs_F hq0 hf0 hc0 (by (repeat' (first | exact bk_F0 | (refine bk_F1 ?_ ?_))) <;> (simp only [sx_ev, sx_evl, gs_ofNat, gs_neg] ; omega))) (by (repeat' (first | exact gs_t0 | (refine gs_t1 ?_ ?_))) <;> (simp only [sx_ev, sx_evl, gs_ofNat, gs_neg] ; omega))⟩
  · exact ⟨sx_σi [(17, (.negSucc 1, [(17, .ofNat 1)])), (18, (.ofNat 2, [(18, .ofNat 1)])), (19, (.ofNat 2, [(19, .ofNat 1)])), (20, (.ofNat 2, [(20, .ofNat 1)]))] σ, gs_fix_of rfl hf0, gs_cnt_of rfl hc0 hn, gs_none rfl, gs_none rfl, gs_none rfl, gs_none rfl, gs_lo rfl, tv_ro_0_ttf a b c d e f g h hLB (gs_F hq0 hf0 hc0 (by (repeat' (first | exact bk_F0 | (refine bk_F1 ?_ ?_))) <;> (simp only [sx_ev, sx_evl, gs_ofNat, gs_neg] ; omega))) (by (repeat' (first | exact gs_t0 | (refine gs_t1 ?_ ?_))) <;> (simp only [sx_ev, sx_evl, gs_ofNat, gs_neg] ; omega))⟩
  · exact ⟨sx_σi [(17, (.negSucc 1, [(17, .ofNat 1)])), (18, (.ofNat 2, [(18, .ofNat 1)])), (19, (.ofNat 2, [(19, .ofNat 1)])), (20, (.ofNat 2, [(20, .ofNat 1)]))] σ, gs_fix_of rfl hf0, gs_cnt_of rfl hc0 hn, gs_none rfl, gs_none rfl, gs_none rfl, gs_none rfl, gs_lo rfl, tv_ro_0_ttt a b c d e f g h hLB (gs_F hq0 hf0 hc0 (by (repeat' (first | exact bk_F0 | (refine bk_F1 ?_ ?_))) <;> (simp only [sx_ev, sx_evl, gs_ofNat, gs_neg] ; omega))) (by (repeat' (first | exact gs_t0 | (refine gs_t1 ?_ ?_))) <;> (simp only [sx_ev, sx_evl, gs_ofNat, gs_neg] ; omega))⟩
  · exact ⟨sx_σi [(17, (.negSucc 1, [(17, .ofNat 1)])), (18, (.ofNat 2, [(18, .ofNat 1)])), (19, (.ofNat 2, [(19, .ofNat 1)])), (20, (.ofNat 2, [(20, .ofNat 1)]))] σ, gs_fix_of rfl hf0, gs_cnt_of rfl hc0 hn, gs_none rfl, gs_none rfl, gs_none rfl, gs_none rfl, gs_lo rfl, tv_ro_1_ttf a b c d e f g h hLB (gs_F hq0 hf0 hc0 (by (repeat' (first | exact bk_F0 | (refine bk_F1 ?_ ?_))) <;> (simp only [sx_ev, sx_evl, gs_ofNat, gs_neg] ; omega))) (by (repeat' (first | exact gs_t0 | (refine gs_t1 ?_ ?_))) <;> (simp only [sx_ev, sx_evl, gs_ofNat, gs_neg] ; omega))⟩
  · exact ⟨sx_σi [(17, (.negSucc 1, [(17, .ofNat 1)])), (18, (.ofNat 2, [(18, .ofNat 1)])), (19, (.ofNat 2, [(19, .ofNat 1)])), (20, (.ofNat 2, [(20, .ofNat 1)]))] σ, gs_fix_of rfl hf0, gs_cnt_of rfl hc0 hn, gs_none rfl, gs_none rfl, gs_none rfl, gs_none rfl, gs_lo rfl, tv_ro_1_ttt a b c d e f g h hLB (gs_F hq0 hf0 hc0 (by (repeat' (first | exact bk_F0 | (refine bk_F1 ?_ ?_))) <;> (simp only [sx_ev, sx_evl, gs_ofNat, gs_neg] ; omega))) (by (repeat' (first | exact gs_t0 | (refine gs_t1 ?_ ?_))) <;> (simp only [sx_ev, sx_evl, gs_ofNat, gs_neg] ; omega))⟩
theorem gs_rz {q : gs_P} {a b c d e f g h : Bool} {LB : List (Nat × sx_C)} {z : Nat → Nat} {σ : Nat → Int} {n : Int} (hLB : bk_lb LB = true) (hq : gs_ok q) (hb : gs_bits q a b c d e f g h) (hf : gs_fix q σ) (hc : gs_cnt n σ) {y v j r : Bool} (hi : σ 16 = 0) : ∃ σ' : Nat → Int, gx_G 40 sm_X8_go 14 560 9 135 z σ (bk_pt 4 xL [] (gp_RO a b c d e f g h y v j r LB) 300) σ' (bk_pt 115 [] [] (gp_END a b c d e f g h LB) 300) := by
  have hf0 := hf
  have hc0 := hc
  have hq0 := hq
  obtain ⟨f1, f2, f3, f4, f5, f6, f7, f8, f9, f10, f11⟩ := hf
  obtain ⟨⟨q1, q2, q3, q4, q5, q6, q7, q8, q9, q10, q11, q12⟩, ⟨q13, q14, q15⟩, ⟨q16, q17, q18⟩, ⟨q19, q20⟩, q21, q22⟩ := hq
  obtain ⟨b1, b2, b3, b4, b5, b6, b7, b8⟩ := hb
  cases y <;> cases v <;> cases j <;> cases r
  · exact ⟨sx_σi [] σ, gs_lo rfl, tv_rz_0_fff a b c d e f g h hLB (gs_F hq0 hf0 hc0 (by (repeat' (first | exact bk_F0 | (refine bk_F1 ?_ ?_))) <;> (simp only [sx_ev, sx_evl, gs_ofNat, gs_neg] ; omega))) (by (repeat' (first | exact gs_t0 | (refine gs_t1 ?_ ?_))) <;> (simp only [sx_ev, sx_evl, gs_ofNat, gs_neg] ; omega))⟩
  · exact ⟨sx_σi [] σ, gs_lo rfl, tv_rz_0_fft a b c d e f g h hLB (gs_F hq0 hf0 hc0 (by (repeat' (first | exact bk_F0 | (refine bk_F1 ?_ ?_))) <;> (simp only [sx_ev, sx_evl, gs_ofNat, gs_neg] ; omega))) (by (repeat' (first | exact gs_t0 | (refine gs_t1 ?_ ?_))) <;> (simp only [sx_ev, sx_evl, gs_ofNat, gs_neg] ; omega))⟩
  · exact ⟨sx_σi [] σ, gs_lo rfl, tv_rz_1_fff a b c d e f g h hLB (gs_F hq0 hf0 hc0 (by (repeat' (first | exact bk_F0 | (refine bk_F1 ?_ ?_))) <;> (simp only [sx_ev, sx_evl, gs_ofNat, gs_neg] ; omega))) (by (repeat' (first | exact gs_t0 | (refine gs_t1 ?_ ?_))) <;> (simp only [sx_ev, sx_evl, gs_ofNat, gs_neg] ; omega))⟩
  · exact ⟨sx_σi [] σ, gs_lo rfl, tv_rz_1_fft a b c d e f g h hLB (gs_F hq0 hf0 hc0 (by (repeat' (first | exact bk_F0 | (refine bk_F1 ?_ ?_))) <;> (simp only [sx_ev, sx_evl, gs_ofNat, gs_neg] ; omega))) (by (repeat' (first | exact gs_t0 | (refine gs_t1 ?_ ?_))) <;> (simp only [sx_ev, sx_evl, gs_ofNat, gs_neg] ; omega))⟩
  · exact ⟨sx_σi [] σ, gs_lo rfl, tv_rz_0_ftf a b c d e f g h hLB (gs_F hq0 hf0 hc0 (by (repeat' (first | exact bk_F0 | (refine bk_F1 ?_ ?_))) <;> (simp only [sx_ev, sx_evl, gs_ofNat, gs_neg] ; omega))) (by (repeat' (first | exact gs_t0 | (refine gs_t1 ?_ ?_))) <;> (simp only [sx_ev, sx_evl, gs_ofNat, gs_neg] ; omega))⟩
  · exact ⟨sx_σi [] σ, gs_lo rfl, tv_rz_0_ftt a b c d e f g h hLB (gs_F hq0 hf0 hc0 (by (repeat' (first | exact bk_F0 | (refine bk_F1 ?_ ?_))) <;> (simp only [sx_ev, sx_evl, gs_ofNat, gs_neg] ; omega))) (by (repeat' (first | exact gs_t0 | (refine gs_t1 ?_ ?_))) <;> (simp only [sx_ev, sx_evl, gs_ofNat, gs_neg] ; omega))⟩
  · exact ⟨sx_σi [] σ, gs_lo rfl, tv_rz_1_ftf a b c d e f g h hLB (gs_F hq0 hf0 hc0 (by (repeat' (first | exact bk_F0 | (refine bk_F1 ?_ ?_))) <;> (simp only [sx_ev, sx_evl, gs_ofNat, gs_neg] ; omega))) (by (repeat' (first | exact gs_t0 | (refine gs_t1 ?_ ?_))) <;> (simp only [sx_ev, sx_evl, gs_ofNat, gs_neg] ; omega))⟩
  · exact ⟨sx_σi [] σ, gs_lo rfl, tv_rz_1_ftt a b c d e f g h hLB (gs_F hq0 hf0 hc0 (by (repeat' (first | exact bk_F0 | (refine bk_F1 ?_ ?_))) <;> (simp only [sx_ev, sx_evl, gs_ofNat, gs_neg] ; omega))) (by (repeat' (first | exact gs_t0 | (refine gs_t1 ?_ ?_))) <;> (simp only [sx_ev, sx_evl, gs_ofNat, gs_neg] ; omega))⟩
  · exact ⟨sx_σi [] σ, gs_lo rfl, tv_rz_0_tff a b c d e f g h hLB (gs_F hq0 hf0 hc0 (by (repeat' (first | exact bk_F0 | (refine bk_F1 ?_ ?_))) <;> (simp only [sx_ev, sx_evl, gs_ofNat, gs_neg] ; omega))) (by (repeat' (first | exact gs_t0 | (refine gs_t1 ?_ ?_))) <;> (simp only [sx_ev, sx_evl, gs_ofNat, gs_neg] ; omega))⟩
  · exact ⟨sx_σi [] σ, gs_lo rfl, tv_rz_0_tft a b c d e f g h hLB (gs_F hq0 hf0 hc0 (by (repeat' (first | exact bk_F0 | (refine bk_F1 ?_ ?_))) <;> (simp only [sx_ev, sx_evl, gs_ofNat, gs_neg] ; omega))) (by (repeat' (first | exact gs_t0 | (refine gs_t1 ?_ ?_))) <;> (simp only [sx_ev, sx_evl, gs_ofNat, gs_neg] ; omega))⟩
  · exact ⟨sx_σi [] σ, gs_lo rfl, tv_rz_1_tff a b c d e f g h hLB (gs_F hq0 hf0 hc0 (by (repeat' (first | exact bk_F0 | (refine bk_F1 ?_ ?_))) <;> (simp only [sx_ev, sx_evl, gs_ofNat, gs_neg] ; omega))) (by (repeat' (first | exact gs_t0 | (refine gs_t1 ?_ ?_))) <;> (simp only [sx_ev, sx_evl, gs_ofNat, gs_neg] ; omega))⟩
  · exact ⟨sx_σi [] σ, gs_lo rfl, tv_rz_1_tft a b c d e f g h hLB (gs_F hq0 hf0 hc0 (by (repeat' (first | exact bk_F0 | (refine bk_F1 ?_ ?_))) <;> (simp only [sx_ev, sx_evl, gs_ofNat, gs_neg] ; omega))) (by (repeat' (first | exact gs_t0 | (refine gs_t1 ?_ ?_))) <;> (simp only [sx_ev, sx_evl, gs_ofNat, gs_neg] ; omega))⟩
  · exact ⟨sx_σi [] σ, gs_lo rfl, tv_rz_0_ttf a b c d e f g h hLB (gs_F hq0 hf0 hc0 (by (repeat' (first | exact bk_F0 | (refine bk_F1 ?_ ?_))) <;> (simp only [sx_ev, sx_evl, gs_ofNat, gs_neg] ; omega))) (by (repeat' (first | exact gs_t0 | (refine gs_t1 ?_ ?_))) <;> (simp only [sx_ev, sx_evl, gs_ofNat, gs_neg] ; omega))⟩
  · exact ⟨sx_σi [] σ, gs_lo rfl, tv_rz_0_ttt a b c d e f g h hLB (gs_F hq0 hf0 hc0 (by (repeat' (first | exact bk_F0 | (refine bk_F1 ?_ ?_))) <;> (simp only [sx_ev, sx_evl, gs_ofNat, gs_neg] ; omega))) (by (repeat' (first | exact gs_t0 | (refine gs_t1 ?_ ?_))) <;> (simp only [sx_ev, sx_evl, gs_ofNat, gs_neg] ; omega))⟩
  · exact ⟨sx_σi [] σ, gs_lo rfl, tv_rz_1_ttf a b c d e f g h hLB (gs_F hq0 hf0 hc0 (by (repeat' (first | exact bk_F0 | (refine bk_F1 ?_ ?_))) <;> (simp only [sx_ev, sx_evl, gs_ofNat, gs_neg] ; omega))) (by (repeat' (first | exact gs_t0 | (refine gs_t1 ?_ ?_))) <;> (simp only [sx_ev, sx_evl, gs_ofNat, gs_neg] ; omega))⟩
  · exact ⟨sx_σi [] σ, gs_lo rfl, tv_rz_1_ttt a b c d e f g h hLB (gs_F hq0 hf0 hc0 (by (repeat' (first | exact bk_F0 | (refine bk_F1 ?_ ?_))) <;> (simp only [sx_ev, sx_evl, gs_ofNat, gs_neg] ; omega))) (by (repeat' (first | exact gs_t0 | (refine gs_t1 ?_ ?_))) <;> (simp only [sx_ev, sx_evl, gs_ofNat, gs_neg] ; omega))⟩
