/-! mathematics: the text, figure by figure -/
def FS (S S' : MS) : Prop := (∀ i, i ≠ 16 → i ≠ 17 → i ≠ 18 → i ≠ 21 → i ≠ 22 → S'.1 i = S.1 i) ∧ (∀ r, r < 12 ∨ 15 < r → S'.2.1 r = S.2.1 r) ∧ S'.2.2 = S.2.2
theorem FS.rf (S : MS) : FS S S := ⟨fun _ _ _ _ _ _ => rfl, fun _ _ => rfl, rfl⟩
theorem FS.tr {A B C : MS} (h : FS A B) (g : FS B C) : FS A C := ⟨fun i a b c d e => (g.1 i a b c d e).trans (h.1 i a b c d e), fun r hr => (g.2.1 r hr).trans (h.2.1 r hr), g.2.2.trans h.2.2⟩
theorem FS.i (S : MS) (k : Nat) (v : Int32) (hk : k = 16 ∨ k = 17 ∨ k = 18 ∨ k = 21 ∨ k = 22) : FS S (sI S k v) := ⟨fun i a b c d e => sI_n (by omega), fun _ _ => rfl, rfl⟩
theorem FS.a (S : MS) (k : Nat) (f : Nat → Int32) (hk : 12 ≤ k ∧ k ≤ 15) : FS S (mA S k f) := ⟨fun _ _ _ _ _ _ => rfl, fun r hr => mA_n (by omega), rfl⟩
theorem FS.ss {S S' : MS} (h : FS S S') : SS S S' := ⟨fun i hi => h.1 i (by omega) (by omega) (by omega) (by omega) (by omega), fun r hr _ => h.2.1 r (by omega), fun i hi => by rw [h.2.1 11 (by omega)]⟩
/-- a text that both have -/
def TxR (T : Le) (S : MS) (len : Nat) : Prop := len ≤ 60 ∧ T.2 = nI len ∧ S.1 20 = nI len ∧ ∀ i, i < len → T.1 i = S.2.1 19 i
theorem TxR.fs {T : Le} {S S' : MS} {len : Nat} (h : TxR T S len) (g : FS S S') : TxR T S' len := by
  obtain ⟨a, b, c, d⟩ := h
  refine ⟨a, b, (g.1 20 (by decide) (by decide) (by decide) (by decide) (by decide)).trans c, fun i hi => ?_⟩
  rw [g.2.1 19 (by omega)]
  exact d i hi
theorem fig_dead {S : MS} {q : Nat} (hq : q < 2 ^ 31) (h : S.1 22 = nI q) (a : Int32) : f7_figureOf S a = some (0, S) := by
  unfold f7_figureOf f7_figureOf_j58
  rw [h, if_neg (n9_ne hq), ob, show f7_in (-9 : Int32).toInt64 0 9 = 0 by decide, if_pos rfl, if_neg (n9_ne hq), bdk, bdk]
  have e : sI S 22 (nI q) = S := by
    rw [← h]
    exact sI_self
  rw [e]
/-- the class goes on behind a figure -/
def f4_cont (R : Rd) (v : Int32) : Option Rd := if R.2.2 3 + 1 = (if R.2.2 2 = 87 then 4 else 2) then (f4_addPart (rI (rF R (f6_put 4 R.2.1 (R.2.2 3) v)) 3 (R.2.2 3 + 1))).bind fun R15 => some (rI R15 2 0) else some (rI (rF R (f6_put 4 R.2.1 (R.2.2 3) v)) 3 (R.2.2 3 + 1))
theorem rI_s {R : Rd} {k : Nat} {v : Int32} : (rI R k v).2.2 k = v := up_s
theorem rI_n {R : Rd} {k j : Nat} {v : Int32} (h : j ≠ k) : (rI R k v).2.2 j = R.2.2 j := up_n h
theorem fig_in {x : Int32} : (x < 0 ∧ f7_in x.toInt64 0 9 = 0) ∨ (¬ x < 0 ∧ 9 < x ∧ f7_in x.toInt64 0 9 = 0) ∨ (∃ v, v ≤ 9 ∧ x = nI v ∧ f7_in x.toInt64 0 9 = 1) := by
  rw [in_lit x 0 9 0 9 (by decide) (by decide)]
  rcases rg_eq x (lo := 0) (hi := 9) (by omega) (by omega) with ⟨h, e⟩ | ⟨h, h2, e⟩ | ⟨j, h1, h2, rfl, e⟩
  · exact Or.inl ⟨h, e⟩
  · exact Or.inr (Or.inl ⟨h, h2, e⟩)
  · exact Or.inr (Or.inr ⟨j, h2, rfl, e⟩)
/-- one figure, in a part -/
theorem fig {T : Le} {S : MS} {R : Rd} {len p : Nat} {al : Int32} (hT : TxR T S len) (hp : p ≤ len) (h21 : S.1 21 = nI p) (h22 : S.1 22 = (-9)) (c1 : ¬ R.2.2 2 = (-1)) (c2 : ¬ R.2.2 2 = 0) (hf : ∀ v, v ≤ 9 → ∃ b : Bool, f4_fits R (nI v) = some (if b then 1 else 0) ∧ f7_has al (nI v) = if b then 1 else 0) :
    ((∀ n, f4_read_l14 T (n + 1) (nI p) R = some (nI p, R)) ∧ f7_figureOf S al = some (0, sI S 22 (nI p))) ∨
    (∃ v, v ≤ 9 ∧ p < len ∧ S.2.1 19 p - 48 = nI v ∧ f4_fits R (nI v) = some 1 ∧ f7_has al (nI v) = 1 ∧ (∀ n, f4_read_l14 T (n + 1) (nI p) R = (f4_cont R (nI v)).bind fun R2 => f4_read_l14 T n (nI (p + 1)) R2) ∧ f7_figureOf S al = some (nI v, sI S 21 (nI (p + 1)))) := by
  obtain ⟨hl, t1, t2, t3⟩ := hT
  have e1 : ¬ ((if (true : Bool) = true then (1 : Int32) else 0) = 0) := by decide
  have e0 : (if (false : Bool) = true then (1 : Int32) else 0) = 0 := by decide
  have j58 : f7_figureOf_j58 S = some (0, sI S 22 (nI p)) := by
    unfold f7_figureOf_j58
    rw [h22, if_pos rfl, bdk, bdk, h21]
  by_cases hlt : p < len
  · have etx : f1_at T (nI p) = S.2.1 19 p := by
      unfold f1_at
      rw [cell_ok (by omega) (by decide)]
      exact t3 p hlt
    have hA : ∀ n, f4_read_l14 T (n + 1) (nI p) R = (f4_takes R (S.2.1 19 p)).bind fun (v9, R8) => if v9 = 0 then some (nI p, R8) else f4_read_l14 T n (nI (p + 1)) R8 := by
      intro n
      rw [f4_read_l14, t1, if_neg (nI_ge hlt (by omega)), etx, nI_1]
    have hB : f7_figureOf S al = if f7_in (S.2.1 19 p - 48).toInt64 0 9 = 0 then f7_figureOf_j58 S else if f7_has al (S.2.1 19 p - 48) = 0 then f7_figureOf_j58 S else some (S.2.1 19 p - 48, sI S 21 (nI (p + 1))) := by
      unfold f7_figureOf
      rw [h22, if_pos rfl, t2, h21, if_neg (nI_ge hlt (by omega)), rd_ok (by omega) (by decide), ob, ob, bdk, nI_1]
    have hC : f4_takes R (S.2.1 19 p) = if S.2.1 19 p - 48 < 0 then some (0, R) else if 9 < S.2.1 19 p - 48 then some (0, R) else (f4_fits R (S.2.1 19 p - 48)).bind fun v10 => if v10 = 0 then some (0, R) else (f4_cont R (S.2.1 19 p - 48)).bind fun R2 => some (1, R2) := by
      unfold f4_takes
      rw [if_neg c1, if_neg c2, bdk]
      by_cases q1 : S.2.1 19 p - 48 < 0
      · rw [if_pos q1, if_pos q1]
      · rw [if_neg q1, if_neg q1]
        by_cases q2 : 9 < S.2.1 19 p - 48
        · rw [if_pos q2, if_pos q2]
        · rw [if_neg q2, if_neg q2]
          congr 1
          funext v10
          by_cases q3 : v10 = 0
          · rw [if_pos q3, if_pos q3]
          · rw [if_neg q3, if_neg q3, bdk, bdk]
            unfold f4_cont f4_figuresOfPart
            have g2 : (rI (rF R (f6_put 4 R.2.1 (R.2.2 3) (S.2.1 19 p - 48))) 3 (R.2.2 3 + 1)).2.2 2 = R.2.2 2 := rI_n (by decide)
            have g3 : (rI (rF R (f6_put 4 R.2.1 (R.2.2 3) (S.2.1 19 p - 48))) 3 (R.2.2 3 + 1)).2.2 3 = R.2.2 3 + 1 := rI_s
            have g4 : (rF R (f6_put 4 R.2.1 (R.2.2 3) (S.2.1 19 p - 48))).2.2 3 = R.2.2 3 := rfl
            rw [g4, g2, g3]
            by_cases q4 : R.2.2 3 + 1 = (if R.2.2 2 = 87 then 4 else 2)
            · rw [if_pos q4, if_pos q4]
              cases f4_addPart (rI (rF R (f6_put 4 R.2.1 (R.2.2 3) (S.2.1 19 p - 48))) 3 (R.2.2 3 + 1)) <;> rfl
            · rw [if_neg q4, if_neg q4]
              rfl
    generalize hx : S.2.1 19 p - 48 = x at hB hC
    rcases fig_in (x := x) with ⟨q1, q2⟩ | ⟨q1, q2, q3⟩ | ⟨v, q1, q2, q3⟩
    · refine Or.inl ⟨fun n => ?_, ?_⟩
      · rw [hA, hC, if_pos q1, ob]
        rfl
      · rw [hB, q2, if_pos rfl, j58]
    · refine Or.inl ⟨fun n => ?_, ?_⟩
      · rw [hA, hC, if_neg q1, if_pos q2, ob]
        rfl
      · rw [hB, q3, if_pos rfl, j58]
    · obtain ⟨b, b1, b2⟩ := hf v q1
      have n1 : ¬ x < 0 := by rw [q2]; exact nI_pos (by omega)
      have n2 : ¬ 9 < x := by rw [q2]; exact nI_nlt (a := 9) q1 (by omega)
      rw [q3, if_neg (show ¬ (1 : Int32) = 0 by decide), q2, b2] at hB
      rw [if_neg n1, if_neg n2, q2, b1, ob] at hC
      cases b
      · refine Or.inl ⟨fun n => ?_, ?_⟩
        · rw [hA, hC, e0, if_pos rfl, ob]
          rfl
        · rw [hB, e0, if_pos rfl, j58]
      · refine Or.inr ⟨v, q1, hlt, q2, b1, b2, fun n => ?_, ?_⟩
        · rw [hA, hC, if_neg e1]
          cases f4_cont R (nI v) <;> rfl
        · rw [hB, if_neg e1]
  · have e : p = len := by omega
    subst e
    refine Or.inl ⟨fun n => ?_, ?_⟩
    · rw [f4_read_l14, t1, if_pos (nI_le (Nat.le_refl _) (by omega)), if_neg c2]
    · unfold f7_figureOf
      rw [h22, if_pos rfl, t2, h21, if_pos (nI_le (Nat.le_refl _) (by omega)), ob, show f7_in (-9 : Int32).toInt64 0 9 = 0 by decide, if_pos rfl, j58]
