/-! The costs of all live nodes at once: pure. Own work. -/
def cF (kd px py : Nat → Nat) (rt : Nat → Bool) (p ar : Nat → Nat) (cells : Nat) : Nat → Nat → Nat
  | 0, _ => 0
  | k + 1, j => if j = k then (bestC kd px py rt p ar cells (cF kd px py rt p ar cells k) 1000000 k).1 else cF kd px py rt p ar cells k j
theorem cF_lt {kd px py : Nat → Nat} {rt : Nat → Bool} {p ar : Nat → Nat} {cells j : Nat} : ∀ {k : Nat}, j < k → cF kd px py rt p ar cells k j = cF kd px py rt p ar cells (j + 1) j := by
  intro k
  induction k with
  | zero => intro h; omega
  | succ k ih =>
    intro h
    by_cases e : j = k
    · rw [e]
    · rw [cF, if_neg e]; exact ih (by omega)
theorem pats_ne {q : Nat} (h : q ∈ pats) : ¬ q = 0 ∧ ¬ q % 4 = 1 := by
  have : pats.all (fun q => decide (¬ q = 0 ∧ ¬ q % 4 = 1)) = true := by decide +kernel
  exact of_decide_eq_true (List.all_eq_true.mp this _ h)
theorem best_congr {kd px py : Nat → Nat} {rt : Nat → Bool} {p ar : Nat → Nat} {cells N n B : Nat} {c1 c2 : Nat → Nat} (hw : wf kd px py N) (hn : n < N) (hp : ∀ c, c < cells → p c ∈ pats) (h : ∀ x, x < n → c1 x = c2 x) : bestC kd px py rt p ar cells c1 B n = bestC kd px py rt p ar cells c2 B n := by
  refine chC_congr _ fun c sw hc _ => ⟨rfl, fun pins hl => ?_⟩
  have ⟨q1, q2⟩ := pats_ne (hp c hc)
  have ⟨t1, _⟩ := lay_top hw hn q1 q2 hl
  unfold valC
  congr 1
  have : ∀ (l : List Nat), (∀ x, x ∈ l → x < n) → sumL (pc kd rt c1) l = sumL (pc kd rt c2) l := by
    intro l
    induction l with
    | nil => intro _; rfl
    | cons x l ih =>
      intro hx
      simp only [sumL]
      rw [ih fun y hy => hx y (List.mem_cons_of_mem _ hy)]
      unfold pc
      rw [h x (hx x (List.mem_cons_self ..))]
  exact this pins t1
/-- every live logic node has its choice, the same from both bounds -/
def CovP (kd px py : Nat → Nat) (rt : Nat → Bool) (Lv : Nat → Prop) (p ar : Nat → Nat) (cells : Nat) (cost : Nat → Nat) (n : Nat) : Prop :=
  bestC kd px py rt p ar cells cost 48001 n = bestC kd px py rt p ar cells cost 1000000 n ∧ cost n = (bestC kd px py rt p ar cells cost 1000000 n).1 ∧ cost n ≤ 48000 ∧
  ∃ c sw pins, bestC kd px py rt p ar cells cost 1000000 n = (valC kd rt ar cost c pins, some (c, sw, pins)) ∧ layC kd px py rt p n c sw = some pins ∧ c < cells ∧ sw < 2 ^ nandsP (p c) ∧ (∀ x, x ∈ pins → x < n ∧ Lv x) ∧ pins.length = pinsP (p c)
theorem cover_ex {kd px py : Nat → Nat} {rt : Nat → Bool} {p ar : Nat → Nat} {cells N : Nat} {Lv : Nat → Prop} (hw : wf kd px py N)
    (hl : ∀ k, k < N → Lv k → (kd k = 2 → px k < N ∧ Lv (px k)) ∧ (kd k = 3 → (px k < N ∧ Lv (px k)) ∧ (py k < N ∧ Lv (py k)))) (hp : ∀ c, c < cells → p c ∈ pats) (har : ∀ c, c < cells → ar c ≤ 1000)
    (h6 : ∃ c, c < cells ∧ p c = 6) (h23 : ∃ c, c < cells ∧ p c = 23) (hsz : ∀ n, n < N → Lv n → sz kd px py rt n ≤ 48) :
    ∃ cost : Nat → Nat, ∀ n, n < N → Lv n → (kd n = 2 ∨ kd n = 3) → CovP kd px py rt Lv p ar cells cost n := by
  refine ⟨cF kd px py rt p ar cells N, ?_⟩
  have key : ∀ n, n < N → cF kd px py rt p ar cells N n = (bestC kd px py rt p ar cells (cF kd px py rt p ar cells N) 1000000 n).1 := by
    intro n hn
    rw [cF_lt hn, cF, if_pos rfl]
    congr 1
    exact best_congr hw hn hp fun x hx => by rw [cF_lt hx, cF_lt (show x < N by omega)]
  have main : ∀ m n, n < m → n < N → Lv n → (kd n = 2 ∨ kd n = 3) → cF kd px py rt p ar cells N n ≤ 1000 * sz kd px py rt n ∧ CovP kd px py rt Lv p ar cells (cF kd px py rt p ar cells N) n := by
    intro m
    induction m with
    | zero => intro n h; omega
    | succ m ih =>
      intro n hm hn hln hk
      have ⟨r1, r2, r3⟩ := cover_same (csC := cF kd px py rt p ar cells N) (csM := cF kd px py rt p ar cells N) hw hn hl hln hk hp har h6 h23 (fun x hx hlx hr => ⟨rfl, (ih x (by omega) (by omega) hlx hr.1).1⟩) (hsz n hn hln)
      have := key n hn
      have := hsz n hn hln
      exact ⟨by omega, r1, key n hn, by omega, r3⟩
  exact fun n hn hln hk => (main (n + 1) n (by omega) hn hln hk).2
