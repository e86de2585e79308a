/-! feeding the goal's text: states, pieces -/
def f_b (i : Nat) : sx_V := .inl (.inl (0, [(i, 1)]))
def f_n (i : Nat) : sx_V := .inl (.inl (.ofNat i, []))
/-- a word of four bytes: o bytes of the text have been told -/
def f_by (o i k : Nat) : Nat := bif Nat.blt (Nat.min 4 (o % 20 - 4 * i) + k) 4 then 200 + (o - o % 20) + 4 * i + (Nat.min 4 (o % 20 - 4 * i) + k) else 220 + (o - o % 20) + 4 * i + (Nat.min 4 (o % 20 - 4 * i) + k - 4)
def f_w (o i : Nat) : sx_V := .inl (.inl (0, [(f_by o i 0, 16777216), (f_by o i 1, 65536), (f_by o i 2, 256), (f_by o i 3, 1)]))
def f_m (o : Nat) : sx_C := .inr (0, 20, true, [(0, f_w o 0), (5, f_n (o % 20)), (1, f_w o 1), (2, f_w o 2), (3, f_w o 3), (4, f_w o 4), (6, f_b 20), (7, f_b 21), (8, f_b 22), (9, f_b 23), (10, f_b 24), (11, f_b 25), (12, f_b 31), (13, f_b 32), (14, f_b 33)])
/-- the tape: what was told lies over what lay there -/
def f_tp (t : Nat) : Nat → Nat → List (Nat × sx_V)
  | 0, _ => []
  | n + 1, i => (i, f_b (bif Nat.blt i t then 220 + i else 100 + i)) :: f_tp t n (i + 1)
def f_t (o : Nat) : sx_C := .inr (1, 8000, true, f_tp (o - o % 20) (Nat.max 40 (o - o % 20)) 0)
def f_h (o : Nat) : sx_C := .inl (14, [some (.inr (.inr (some (.inl 2)))), some (f_n (o - o % 20)), some (.inr (.inr (some (.inr 2000)))), some (.inr (.inr (some (.inr 2001)))), some (.inr (.inr (some (.inr 2002)))), some (.inr (.inr (some (.inr 2003)))), some (.inr (.inr (some (.inr 2004)))), some (.inl (.inl (.ofNat 0, []))), some (.inl (.inl (.negSucc 1, []))), some (.inr (.inr (some (.inr 2005)))), some (.inl (.inl (.ofNat 0, [])))])
def f_cs (o : Nat) : List sx_C := [f_h o, f_m o, f_t o]
def f_L : List (Nat × sx_V) := [(0, .inr (.inr (some (.inr 1000)))), (1, .inr (.inr (some (.inl 0)))), (2, .inr (.inr (some (.inl 1)))), (3, f_b 26), (4, f_b 27), (5, f_b 28), (6, f_b 29), (7, f_b 30)]
/-- at a row of the law, o bytes told -/
def f_pt (r o : Nat) : sx_Pt := (r, f_L, [], sx_mkw 0 (f_cs o), 3)
def f_Bn (s : Nat) : Nat → sx_Bs
  | 0 => []
  | n + 1 => (s + n, 0, 127) :: f_Bn s n
/-- first and last row, bytes told before and behind, what numbers are, their bounds, the bytes -/
abbrev f_T : Type := Nat × Nat × Nat × Nat × List (Nat × sx_I) × sx_Bs × List sx_I
def f_bs : Nat → List sx_I → List (Nat × sx_I)
  | _, [] => []
  | i, e :: es => (i, e) :: f_bs (i + 1) es
def f_B (t : f_T) : sx_Bs := t.2.2.2.2.2.1 ++ f_Bn (200 + (t.2.2.1 - t.2.2.1 % 20)) 60
noncomputable def f_ok (t : f_T) : Bool := sx_ckp (f_pt t.1 t.2.2.1).2.2.2.1 0 (f_cs t.2.2.1) && sx_plI sx_p9 (f_B t) (sx_pra (f_B t)) sx_mt (fun _ => none) 100000 5 18 726 59 [(1, t.2.1)] (t.1, sx_iU (fun i => i) [] t.2.2.2.2.1 f_L, [], sx_mkw 0 ((f_cs t.2.2.1).map (sx_iC (fun i => i) [] t.2.2.2.2.1)), 3) 0 0 t.2.1 [0, 1, 2] [] (f_bs (220 + t.2.2.1) t.2.2.2.2.2.2 ++ t.2.2.2.2.1) f_L [] (f_cs t.2.2.2.1)
theorem f_sg {t : f_T} (h : f_ok t = true) {z : Nat → Nat} {σ : Nat → Int} (hB : sx_okB σ (f_B t)) (h1 : ∀ q ∈ t.2.2.2.2.1, sx_ev σ q.2 = σ q.1) (h2 : ∀ q ∈ f_bs (220 + t.2.2.1) t.2.2.2.2.2.2, sx_ev σ q.2 = σ q.1) : sx_Sg wsL_law sm_L_law 18 726 0 0 z σ (f_pt t.1 t.2.2.1) (f_pt t.2.1 t.2.2.2.1) := by
  unfold f_ok at h
  rw [Bool.and_eq_true] at h
  obtain ⟨ha, hb⟩ := h
  obtain ⟨c', e1, e2, e3⟩ := sx_plI_ok (z := z) sx_p9_PG sx_tb_ok sx_good (sx_snd9 _) (sx_pra_sh _) (fun i g hg => (by cases hg)) hB hb (M := sm_L_law) rfl
  have e4 := e3.conv [0, 1, 2] (f_bs (220 + t.2.2.1) t.2.2.2.2.2.2 ++ t.2.2.2.2.1) (fun q hq => (List.mem_append.mp hq).elim (h2 q) (h1 q)) (fun i hi => by
    have hi : i < 3 := hi
    match i, hi with
    | 0, _ => rfl
    | 1, _ => rfl
    | 2, _ => rfl) e2
  rw [e1] at e4
  exact sx_Sg.pre t.2.2.2.2.1 h1 ha e4
