/-! mathematics: the net that is being read -/
def sm : Nat → (Nat → Nat) → Nat
  | 0, _ => 0
  | n + 1, f => sm n f + f n
theorem sm_cong : ∀ (n : Nat) (f g : Nat → Nat), (∀ k, k < n → g k = f k) → sm n g = sm n f := by
  intro n
  induction n with
  | zero => intro f g _; rfl
  | succ n ih =>
    intro f g h
    show sm n g + g n = sm n f + f n
    rw [ih f g (fun k hk => h k (by omega)), h n (by omega)]
theorem sm_one : ∀ (n : Nat) (f g : Nat → Nat) (b : Nat), b < n → g b = f b + 1 → (∀ k, k < n → k ≠ b → g k = f k) → sm n g = sm n f + 1 := by
  intro n
  induction n with
  | zero => intro f g b hb; omega
  | succ n ih =>
    intro f g b hb h1 h2
    show sm n g + g n = sm n f + f n + 1
    by_cases e : b = n
    · subst e
      rw [sm_cong b f g (fun k hk => h2 k (by omega) (by omega)), h1]
      omega
    · rw [ih f g b (by omega) h1 (fun k hk hk2 => h2 k (by omega) hk2), h2 n (by omega) (by omega)]
      omega
theorem sm_le : ∀ (n : Nat) (f g : Nat → Nat), (∀ k, k < n → f k ≤ g k) → sm n f ≤ sm n g := by
  intro n
  induction n with
  | zero => intro f g _; exact Nat.le_refl _
  | succ n ih =>
    intro f g h
    have h1 := ih f g (fun k hk => h k (by omega))
    have h2 := h n (by omega)
    show sm n f + f n ≤ sm n g + g n
    omega
theorem sm_lt : ∀ (n : Nat) (f g : Nat → Nat) (b : Nat), b < n → f b < g b → (∀ k, k < n → f k ≤ g k) → sm n f < sm n g := by
  intro n
  induction n with
  | zero => intro f g b hb; omega
  | succ n ih =>
    intro f g b hb h1 h
    show sm n f + f n < sm n g + g n
    have h2 := h n (by omega)
    by_cases e : b = n
    · subst e
      have h3 := sm_le b f g (fun k hk => h k (by omega))
      omega
    · have h3 := ih f g b (by omega) h1 (fun k hk => h k (by omega))
      omega
def ec (r : Nat → Int32) : Nat := sm 6 (fun i => sm 6 (fun k => if bt (r i) k then 1 else 0))
theorem ec_one {r : Nat → Int32} {a b : Nat} (ha : a < 6) (hb : b < 6) (h : bt (r a) b = false) : ec (upd r a (r a ||| (1 : Int32) <<< (nI b &&& 31))) = ec r + 1 := by
  refine sm_one 6 _ _ a ha ?_ (fun k hk hk2 => ?_)
  · refine sm_one 6 _ _ b hb ?_ (fun k hk hk2 => ?_)
    · rw [up_s, b_or, h, b_one (by omega) (by omega), decide_eq_true rfl]
      rfl
    · rw [up_s, b_or, b_one (by omega) (by omega), decide_eq_false hk2, Bool.or_false]
  · rw [up_n hk2]
/-- what a joint may still be joined to -/
def lvI (nJ : Nat) (r : Nat → Int32) (i : Nat) : Int32 := ((((1 : Int32) <<< (nI nJ &&& 31)) - 1) &&& (r i ^^^ (-1))) &&& (((1 : Int32) <<< (nI i &&& 31)) ^^^ (-1))
theorem lv_b {nJ i : Nat} (r : Nat → Int32) (hJ : nJ ≤ 6) (hi : i < 31) {k : Nat} (hk : k < 32) : bt (lvI nJ r i) k = (decide (k < nJ) && !bt (r i) k && !decide (k = i)) := by
  unfold lvI
  have e : ((1 : Int32) <<< (nI nJ &&& 31)) - 1 = f6_all (nI nJ) := by
    unfold f6_all
    rw [bit_eq (by omega)]
  rw [b_and, b_and, b_not _ hk, b_not _ hk, b_one (by omega) hk, e, b_all nJ (by omega) k hk]
theorem left_eq {S : MS} {nJ i : Nat} (h16 : S.1 16 = nI nJ) (hi : i < 6) : f7_left S (nI i) = some (lvI nJ (S.2.1 15) i) := by
  unfold f7_left lvI
  rw [rd_ok (by omega) (by decide), ob, h16]
theorem first_l {S : MS} {nJ : Nat} (h16 : S.1 16 = nI nJ) (hJ : nJ ≤ 6) : ∀ (n i : Nat) (acc : Int32), i ≤ nJ → nJ < i + n → ∃ v, f7_firstsLeft_l4 S n acc (nI i) = some v ∧ ∀ k, k < 32 → bt v k = (bt acc k || (decide (i ≤ k) && decide (k < nJ) && !decide (lvI nJ (S.2.1 15) k = 0))) := by
  intro n
  induction n with
  | zero => intro i acc h1 h2; omega
  | succ n ih =>
    intro i acc h1 h2
    rw [f7_firstsLeft_l4, h16]
    by_cases hi : i < nJ
    · rw [if_neg (nI_ge hi (by omega)), left_eq h16 (by omega), ob, bdk, bdk, nI_1]
      obtain ⟨v, v1, v2⟩ := ih (i + 1) (acc ||| (if lvI nJ (S.2.1 15) i = 0 then 0 else (1 : Int32) <<< (nI i &&& 31))) (by omega) (by omega)
      refine ⟨v, v1, fun k hk => ?_⟩
      rw [v2 k hk, dstep hi (fun k => !decide (lvI nJ (S.2.1 15) k = 0)), b_or]
      by_cases hz : lvI nJ (S.2.1 15) i = 0
      · rw [if_pos hz, b_0, Bool.or_false, decide_eq_true hz, Bool.not_true, Bool.and_false, Bool.false_or]
      · rw [if_neg hz, b_one (by omega) hk, decide_eq_false hz, Bool.not_false, Bool.and_true, Bool.or_assoc]
    · have e : i = nJ := by omega
      subst e
      rw [if_pos (nI_le (Nat.le_refl _) (by omega))]
      exact ⟨acc, rfl, fun k hk => by rw [dend, Bool.or_false]⟩
theorem first_eq {S : MS} {nJ : Nat} (h16 : S.1 16 = nI nJ) (hJ : nJ ≤ 6) : ∃ v, f7_firstsLeft S = some v ∧ ∀ k, k < 32 → bt v k = (decide (k < nJ) && !decide (lvI nJ (S.2.1 15) k = 0)) := by
  obtain ⟨v, v1, v2⟩ := first_l h16 hJ FU 0 0 (by omega) (by show nJ < 0 + 100; omega)
  refine ⟨v, v1, fun k hk => ?_⟩
  rw [v2 k hk, b_0, Bool.false_or, decide_eq_true (Nat.zero_le k), Bool.true_and]
def ReadR (N : Mo) (S : MS) (nJ nP nW : Nat) (A B : Nat → Nat) : Prop :=
  (nJ ≤ 6 ∧ nP ≤ 8 ∧ nW ≤ 4) ∧ (N.1 2 = nI nJ ∧ N.1 3 = nI nP ∧ N.1 4 = nI nW) ∧ (S.1 16 = nI nJ ∧ S.1 17 = nI nP ∧ S.1 18 = nI nW) ∧
  (∀ j, j < nJ → ∃ l, l ≤ 9 ∧ N.2 6 j = nI l ∧ S.2.1 12 (2 * j) = nI l ∧ S.2.1 12 (2 * j + 1) = if bt (N.1 5) j then 1 else 0) ∧ (∀ j, nJ ≤ j → bt (N.1 5) j = false) ∧
  (∀ p, p < nP → N.2 7 p = nI (A p) ∧ N.2 8 p = nI (B p) ∧ S.2.1 13 (2 * p) = nI (A p) ∧ S.2.1 13 (2 * p + 1) = nI (B p) ∧ A p < nJ ∧ B p < nJ ∧ A p ≠ B p) ∧
  (∀ w, w < nW → ∃ a l t o, (a < nJ ∧ l ≤ 9 ∧ t < 4 ∧ o < nJ) ∧ (N.2 9 w = nI a ∧ N.2 10 w = nI l ∧ N.2 11 w = nI t ∧ N.2 12 w = nI o) ∧ S.2.1 14 (4 * w) = nI a ∧ S.2.1 14 (4 * w + 1) = nI l ∧ S.2.1 14 (4 * w + 2) = nI t ∧ S.2.1 14 (4 * w + 3) = nI o) ∧
  (∀ i, i < 6 → ∀ k, k < 32 → (bt (S.2.1 15 i) k = true ↔ ∃ p, p < nP ∧ ((A p = i ∧ B p = k) ∨ (B p = i ∧ A p = k)))) ∧
  ec (S.2.1 15) = 2 * nP
theorem beside_l {N : Mo} {nP j : Nat} {A B : Nat → Nat} (hP : nP ≤ 8) (hj : j < 10) (n3 : N.1 3 = nI nP) (hpi : ∀ p, p < nP → N.2 7 p = nI (A p) ∧ N.2 8 p = nI (B p) ∧ A p < 6 ∧ B p < 6) : ∀ (n i : Nat) (acc : Int32), i ≤ nP → nP < i + n → ∃ v, f3_beside_l5 (nI j) (f6_all (nI nP)) N n acc (nI i) = some v ∧ ∀ k, k < 32 → (bt v k = true ↔ bt acc k = true ∨ ∃ p, i ≤ p ∧ p < nP ∧ ((A p = j ∧ B p = k) ∨ (B p = j ∧ A p = k))) := by
  intro n
  induction n with
  | zero => intro i acc h1 h2; omega
  | succ n ih =>
    intro i acc h1 h2
    rw [f3_beside_l5, n3]
    by_cases hi : i < nP
    · obtain ⟨p1, p2, p3, p4⟩ := hpi i hi
      rw [if_neg (nI_ge hi (by omega)), h6_eq (by omega), b_all nP (by omega) i (by omega), decide_eq_true hi, if_neg (show ¬ ((if (true : Bool) = true then (1 : Int32) else 0) = 0) by decide), bdk, bdk, cell_ok (by omega) (by decide), cell_ok (by omega) (by decide), p1, p2]
      have hr : ∀ acc', (∀ k, k < 32 → (bt acc' k = true ↔ bt acc k = true ∨ ((A i = j ∧ B i = k) ∨ (B i = j ∧ A i = k)))) → ∃ v, f3_beside_l5 (nI j) (f6_all (nI nP)) N n acc' (nI (i + 1)) = some v ∧ ∀ k, k < 32 → (bt v k = true ↔ bt acc k = true ∨ ∃ p, i ≤ p ∧ p < nP ∧ ((A p = j ∧ B p = k) ∨ (B p = j ∧ A p = k))) := by
        intro acc' ha
        obtain ⟨v, v1, v2⟩ := ih (i + 1) acc' (by omega) (by omega)
        refine ⟨v, v1, fun k hk => ?_⟩
        rw [v2 k hk, ha k hk]
        constructor
        · rintro ((q | q) | ⟨p, q1, q2, q3⟩)
          · exact Or.inl q
          · exact Or.inr ⟨i, Nat.le_refl _, hi, q⟩
          · exact Or.inr ⟨p, by omega, q2, q3⟩
        · rintro (q | ⟨p, q1, q2, q3⟩)
          · exact Or.inl (Or.inl q)
          · by_cases e : p = i
            · subst e; exact Or.inl (Or.inr q3)
            · exact Or.inr ⟨p, by omega, q2, q3⟩
      have bor : ∀ (x : Int32) (m k : Nat), m < 6 → k < 32 → (bt (x ||| (1 : Int32) <<< (nI m &&& 31)) k = true ↔ bt x k = true ∨ m = k) := by
        intro x m k hm hk
        rw [b_or, Bool.or_eq_true, b_one (by omega) hk, decide_eq_true_eq]
        constructor
        · rintro (q | q)
          · exact Or.inl q
          · exact Or.inr q.symm
        · rintro (q | q)
          · exact Or.inl q
          · exact Or.inr q.symm
      unfold f3_beside_j62
      simp only [bdk, nI_1]
      rw [bit_eq (by omega), bit_eq (by omega)]
      by_cases c0 : A i = j
      · rw [if_pos (show nI (A i) = nI j by rw [c0])]
        by_cases c1 : B i = j
        · rw [if_pos (show nI (B i) = nI j by rw [c1])]
          refine hr _ (fun k hk => ?_)
          rw [bor _ _ _ p3 hk, bor _ _ _ p4 hk]
          constructor
          · rintro ((q | q) | q)
            · exact Or.inl q
            · exact Or.inr (Or.inl ⟨c0, q⟩)
            · exact Or.inr (Or.inr ⟨c1, q⟩)
          · rintro (q | ⟨q1, q2⟩ | ⟨q1, q2⟩)
            · exact Or.inl (Or.inl q)
            · exact Or.inl (Or.inr q2)
            · exact Or.inr q2
        · rw [if_neg (ne_nI c1 (by omega) (by omega))]
          refine hr _ (fun k hk => ?_)
          rw [bor _ _ _ p4 hk]
          constructor
          · rintro (q | q)
            · exact Or.inl q
            · exact Or.inr (Or.inl ⟨c0, q⟩)
          · rintro (q | ⟨q1, q2⟩ | ⟨q1, q2⟩)
            · exact Or.inl q
            · exact Or.inr q2
            · exact absurd q1 c1
      · rw [if_neg (ne_nI c0 (by omega) (by omega))]
        by_cases c1 : B i = j
        · rw [if_pos (show nI (B i) = nI j by rw [c1])]
          refine hr _ (fun k hk => ?_)
          rw [bor _ _ _ p3 hk]
          constructor
          · rintro (q | q)
            · exact Or.inl q
            · exact Or.inr (Or.inr ⟨c1, q⟩)
          · rintro (q | ⟨q1, q2⟩ | ⟨q1, q2⟩)
            · exact Or.inl q
            · exact absurd q1 c0
            · exact Or.inr q2
        · rw [if_neg (ne_nI c1 (by omega) (by omega))]
          refine hr _ (fun k hk => ?_)
          constructor
          · exact fun q => Or.inl q
          · rintro (q | ⟨q1, q2⟩ | ⟨q1, q2⟩)
            · exact q
            · exact absurd q1 c0
            · exact absurd q1 c1
    · have e : i = nP := by omega
      subst e
      rw [if_pos (nI_le (Nat.le_refl _) (by omega))]
      refine ⟨acc, rfl, fun k hk => ⟨fun q => Or.inl q, ?_⟩⟩
      rintro (q | ⟨p, q1, q2, -⟩)
      · exact q
      · omega
theorem joinable_eq {N : Mo} {S : MS} {nJ nP nW : Nat} {A B : Nat → Nat} (h : ReadR N S nJ nP nW A B) {i : Nat} (hi : i < 10) : f3_joinable N (nI i) = some (if i < nJ then lvI nJ (S.2.1 15) i else 0) := by
  obtain ⟨hb, ⟨n2, n3, n4⟩, -, -, -, hpi, -, hj, -⟩ := h
  unfold f3_joinable
  rw [n2, n3, if_neg (nI_pos (by omega))]
  by_cases c : i < nJ
  · obtain ⟨v, v1, v2⟩ := beside_l (A := A) (B := B) (j := i) hb.2.1 (by omega) n3 (fun p hp => ⟨(hpi p hp).1, (hpi p hp).2.1, by have := (hpi p hp).2.2.2.2.1; omega, by have := (hpi p hp).2.2.2.2.2.1; omega⟩) FU 0 0 (by omega) (by show nP < 0 + 100; omega)
    have v1' : f3_beside N (nI i) (f6_all (nI nP)) = some v := v1
    have hv : v = S.2.1 15 i := by
      apply b_ext
      intro k hk
      apply Bool.eq_iff_iff.mpr
      rw [v2 k hk, hj i (by omega) k hk, b_0]
      constructor
      · rintro (q | ⟨p, q1, q2, q3⟩)
        · cases q
        · exact ⟨p, q2, q3⟩
      · rintro ⟨p, q2, q3⟩
        exact Or.inr ⟨p, by omega, q2, q3⟩
    rw [if_pos (nI_lt c (by omega)), if_pos c, v1', ob, hv]
    congr 1
    apply b_ext
    intro k hk
    rw [lv_b _ hb.1 (by omega) hk, b_and, b_and, b_not _ hk, b_not _ hk, b_bit (by omega) hk, b_all nJ (by omega) k hk]
    cases decide (k < nJ) <;> cases decide (k = i) <;> cases bt (S.2.1 15 i) k <;> rfl
  · rw [if_neg (nI_nlt (by omega) (by omega)), if_neg c]
theorem jj_all : ∀ n, n < 7 → nI n * (nI n - 1) = nI (n * (n - 1)) ∧ sm 6 (fun i => sm 6 (fun k => if i < n ∧ k < n ∧ i ≠ k then 1 else 0)) = n * (n - 1) := by decide +kernel
/-- room for one more pipe: by number, and by looking -/
theorem room_eq {N : Mo} {S : MS} {nJ nP nW : Nat} {A B : Nat → Nat} (h : ReadR N S nJ nP nW A B) {v : Int32} (hv : ∀ k, k < 32 → bt v k = (decide (k < nJ) && !decide (lvI nJ (S.2.1 15) k = 0))) : v = 0 ↔ nJ * (nJ - 1) ≤ 2 * nP := by
  obtain ⟨hb, -, -, -, -, hpi, -, hj, hc⟩ := h
  obtain ⟨-, hfull⟩ := jj_all nJ (by omega)
  have hE : ∀ i, i < 6 → ∀ k, k < 6 → bt (S.2.1 15 i) k = true → i < nJ ∧ k < nJ ∧ i ≠ k := by
    intro i hi k hk hq
    obtain ⟨p, q1, q2⟩ := (hj i hi k (by omega)).mp hq
    obtain ⟨-, -, -, -, z1, z2, z3⟩ := hpi p q1
    rcases q2 with ⟨rfl, rfl⟩ | ⟨rfl, rfl⟩
    · exact ⟨z1, z2, z3⟩
    · exact ⟨z2, z1, fun e => z3 e.symm⟩
  have hle : ∀ i, i < 6 → ∀ k, k < 6 → (if bt (S.2.1 15 i) k then 1 else 0) ≤ (if i < nJ ∧ k < nJ ∧ i ≠ k then 1 else 0) := by
    intro i hi k hk
    cases hq : bt (S.2.1 15 i) k
    · rw [if_neg (show ¬ (false : Bool) = true by decide)]; omega
    · rw [if_pos rfl, if_pos (hE i hi k hk hq)]; omega
  constructor
  · intro hz
    have heq : ec (S.2.1 15) = nJ * (nJ - 1) := by
      rw [← hfull]
      refine sm_cong 6 _ _ (fun i hi => sm_cong 6 _ _ (fun k hk => ?_))
      by_cases c : i < nJ ∧ k < nJ ∧ i ≠ k
      · have h1 := hv i (by omega)
        rw [hz, b_0, decide_eq_true c.1, Bool.true_and] at h1
        have h2 : lvI nJ (S.2.1 15) i = 0 := by
          by_cases q : lvI nJ (S.2.1 15) i = 0
          · exact q
          · rw [decide_eq_false q] at h1; cases h1
        have h3 := lv_b (S.2.1 15) hb.1 (show i < 31 by omega) (show k < 32 by omega)
        rw [h2, b_0, decide_eq_true c.2.1, decide_eq_false (fun e => c.2.2 e.symm), Bool.true_and, Bool.not_false, Bool.and_true] at h3
        have h4 : bt (S.2.1 15 i) k = true := by
          cases q : bt (S.2.1 15 i) k
          · rw [q] at h3; cases h3
          · rfl
        rw [h4, if_pos rfl, if_pos c]
      · have h4 : bt (S.2.1 15 i) k = false := by
          cases q : bt (S.2.1 15 i) k
          · rfl
          · exact absurd (hE i hi k hk q) c
        rw [h4, if_neg c]
        rfl
    omega
  · intro hge
    apply b_ext
    intro i hi
    rw [hv i hi, b_0]
    by_cases c : i < nJ
    · rw [decide_eq_true c, Bool.true_and]
      by_cases q : lvI nJ (S.2.1 15) i = 0
      · rw [decide_eq_true q]; rfl
      · exfalso
        apply q
        apply b_ext
        intro k hk
        rw [lv_b _ hb.1 (by omega) hk, b_0]
        by_cases ck : k < nJ ∧ i ≠ k
        · cases hq : bt (S.2.1 15 i) k
          · exfalso
            have hlt : ec (S.2.1 15) < nJ * (nJ - 1) := by
              rw [← hfull]
              refine sm_lt 6 _ _ i (by omega) (sm_lt 6 _ _ k (by omega) ?_ (fun m hm => hle i (by omega) m hm)) (fun m hm => sm_le 6 _ _ (fun m' hm' => hle m hm m' hm'))
              rw [hq, if_neg (show ¬ (false : Bool) = true by decide), if_pos (show i < nJ ∧ k < nJ ∧ i ≠ k from ⟨c, ck.1, ck.2⟩)]
              omega
            omega
          · rw [Bool.not_true, Bool.and_false, Bool.false_and]
        · by_cases c2 : k < nJ
          · have : k = i := by
              by_cases e : i = k
              · exact e.symm
              · exact absurd ⟨c2, e⟩ ck
            rw [decide_eq_true this, Bool.not_true, Bool.and_false]
          · rw [decide_eq_false c2, Bool.false_and, Bool.false_and]
    · rw [decide_eq_false c, Bool.false_and]
