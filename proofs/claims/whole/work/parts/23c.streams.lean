/-! What a move does to the streams: pure. Own work. -/
/-- tf: the gate that a connection below fo leads to -/
def tkM (fo : Nat) (tf : Nat → Nat) (m : Nat → Nat) (e : Nat) : Nat := if e < fo then m (tf e) else 0
def gvM (pl F S L B tbl : Nat → Nat) : Nat → Nat → Bool := rt_gv pl (fun g p => S (F g + p)) (fun g p => L (F g + p)) (fun g p => B (F g + p)) (fun g bits => (tbl g).testBit bits)
def SM (fo oc : Nat) (pl F S L B tbl tf : Nat → Nat) (m cn ro : Nat → Nat) : Prop :=
  ∀ e, e < fo + oc → cn e + tkM fo tf m e = L e + m (S e) ∧ ro e = rowv (rt_X (gvM pl F S L B tbl) (S e) (L e) (B e)) (tkM fo tf m e) (cn e)
def incM (m : Nat → Nat) (g u : Nat) : Nat := if u = g then m g + 1 else m u
theorem incM_s (m : Nat → Nat) (g : Nat) : incM m g g = m g + 1 := if_pos rfl
theorem incM_n (m : Nat → Nat) {g u : Nat} (h : ¬ u = g) : incM m g u = m u := if_neg h
theorem move_sm {fo oc : Nat} {gt : Nat → Prop} {pl F S L B tbl tf m cn ro : Nat → Nat} {g : Nat} (hg : gt g) (hF : F g + pl g ≤ fo) (htf : ∀ e, e < fo → (tf e = g ↔ F g ≤ e ∧ e < F g + pl g)) (hz : ∀ p, p < pl g → L (F g + p) = 0 → S (F g + p) < g)
    (h : SM fo oc pl F S L B tbl tf m cn ro) (hpos : ∀ p, p < pl g → ¬ cn (F g + p) = 0) :
    SM fo oc pl F S L B tbl tf (incM m g) (cnP S g (fo + oc) (cnT F g (pl g) cn)) (roP S g (fo + oc) ((tbl g).testBit (pb (tkB F g cn ro) (pl g))).toNat (roT F g (pl g) cn ro)) := by
  have bit : ∀ p, p < pl g → tkB F g cn ro p = rt_X (gvM pl F S L B tbl) (S (F g + p)) (L (F g + p)) (B (F g + p)) (m g) := by
    intro p hp
    have ⟨h1, h2⟩ := h (F g + p) (by omega)
    have et : tkM fo tf m (F g + p) = m g := by unfold tkM; rw [if_pos (by omega), (htf (F g + p) (by omega)).mpr ⟨by omega, by omega⟩]
    obtain ⟨k, hk⟩ : ∃ k, cn (F g + p) = k + 1 := ⟨cn (F g + p) - 1, by have := hpos p hp; omega⟩
    unfold tkB
    rw [h2, et, hk, Nat.add_sub_cancel, Nat.testBit_eq_decide_div_mod_eq, (rowv_take _ _ _).1]
    cases rt_X (gvM pl F S L B tbl) (S (F g + p)) (L (F g + p)) (B (F g + p)) (m g) <;> rfl
  have val : (tbl g).testBit (pb (tkB F g cn ro) (pl g)) = gvM pl F S L B tbl (m g) g := by
    rw [pb_congr bit]
    unfold gvM
    rw [rt_gv_eq (fun p hp h0 => hz p hp h0)]
  intro e he
  have ⟨h1, h2⟩ := h e he
  -- after the taking
  have tak : cnT F g (pl g) cn e + tkM fo tf (incM m g) e = L e + m (S e) ∧ roT F g (pl g) cn ro e = rowv (rt_X (gvM pl F S L B tbl) (S e) (L e) (B e)) (tkM fo tf (incM m g) e) (cnT F g (pl g) cn e) := by
    by_cases q : F g ≤ e ∧ e < F g + pl g
    · have hp := hpos (e - F g) (by omega)
      rw [show F g + (e - F g) = e by omega] at hp
      have et : tkM fo tf m e = m g := by unfold tkM; rw [if_pos (by omega), (htf e (by omega)).mpr q]
      have et2 : tkM fo tf (incM m g) e = m g + 1 := by unfold tkM; rw [if_pos (by omega), (htf e (by omega)).mpr q, incM_s]
      obtain ⟨k, hk⟩ : ∃ k, cn e = k + 1 := ⟨cn e - 1, by omega⟩
      unfold cnT roT
      rw [if_pos q, if_pos q, et2, hk, Nat.add_sub_cancel]
      rw [et, hk] at h1 h2
      exact ⟨by omega, by rw [h2, (rowv_take _ _ _).2]⟩
    · have et2 : tkM fo tf (incM m g) e = tkM fo tf m e := by
        unfold tkM
        by_cases z : e < fo
        · rw [if_pos z, if_pos z, incM_n _ (fun y => q ((htf e z).mp y))]
        · rw [if_neg z, if_neg z]
      unfold cnT roT
      rw [if_neg q, if_neg q, et2]
      exact ⟨h1, h2⟩
  unfold cnP roP
  by_cases q : S e = g
  · rw [if_pos ⟨he, q⟩, if_pos ⟨he, q⟩, show incM m g (S e) = m g + 1 by rw [q]; exact incM_s m g]
    refine ⟨by rw [q] at tak; omega, ?_⟩
    rw [rowv, ← tak.2]
    congr 2
    rw [val]
    unfold rt_X
    have e3 : tkM fo tf (incM m g) e + cnT F g (pl g) cn e = L e + m g := by rw [q] at tak; omega
    rw [e3, if_neg (by omega), show L e + m g - L e = m g by omega, q]
  · rw [if_neg (fun z => q z.2), if_neg (fun z => q z.2), incM_n _ q]
    exact tak
/-- the start -/
theorem sm_start {fo oc : Nat} {pl F S L B tbl tf : Nat → Nat} (hB : ∀ e, e < fo + oc → B e < 2 ^ L e) : SM fo oc pl F S L B tbl tf (fun _ => 0) L B := by
  intro e he
  have et : tkM fo tf (fun _ => 0) e = 0 := by unfold tkM; split <;> rfl
  rw [et]
  exact ⟨rfl, (rowv_start (hB e he)).symm⟩
