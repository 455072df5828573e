/-! worlds in another order -/
theorem zP_mem {D : va_G} {cl : List vw_C} {ws ws2 : va_W} {H : Heap} (h : va_P D cl ws H) (hm : ∀ q ∈ ws2, q ∈ ws) : va_P D cl ws2 H := by
  intro k q hk
  obtain ⟨i, hi⟩ := List.getElem?_of_mem (hm q (List.mem_of_getElem? hk))
  exact h i q hi
theorem zD_iff {A : Nat → Prop} {ws : va_W} : va_D A ws ↔ (ws.map Prod.fst).Nodup ∧ ∀ q ∈ ws, A q.1 := by
  constructor
  · intro h
    refine ⟨?_, fun q hq => ?_⟩
    · refine List.pairwise_iff_getElem.mpr ?_
      intro i j hi hj hij he
      have hi2 : i < ws.length := by simpa using hi
      have hj2 : j < ws.length := by simpa using hj
      rw [List.getElem_map, List.getElem_map] at he
      have := h.1 i j _ _ (List.getElem?_eq_getElem hi2) (List.getElem?_eq_getElem hj2) he
      omega
    · obtain ⟨i, hi⟩ := List.getElem?_of_mem hq
      exact h.2 i q hi
  · intro h
    refine ⟨fun i j x y hi hj hxy => ?_, fun k q hk => h.2 q (List.mem_of_getElem? hk)⟩
    have hn := List.pairwise_iff_getElem.mp h.1
    obtain ⟨hi1, ei⟩ := List.getElem?_eq_some_iff.mp hi
    obtain ⟨hj1, ej⟩ := List.getElem?_eq_some_iff.mp hj
    have hi2 : i < (ws.map Prod.fst).length := by simpa using hi1
    have hj2 : j < (ws.map Prod.fst).length := by simpa using hj1
    rcases Nat.lt_trichotomy i j with q | q | q
    · exact absurd (by rw [List.getElem_map, List.getElem_map, ei, ej]; exact hxy) (hn i j hi2 hj2 q)
    · exact q
    · exact absurd (by rw [List.getElem_map, List.getElem_map, ei, ej]; exact hxy.symm) (hn j i hj2 hi2 q)
theorem zD_perm {A : Nat → Prop} {ws ws2 : va_W} (h : va_D A ws) (hp : ws.Perm ws2) : va_D A ws2 := by
  rw [zD_iff] at h ⊢
  exact ⟨(hp.map Prod.fst).nodup_iff.mp h.1, fun q hq => h.2 q (hp.mem_iff.mpr hq)⟩
theorem zP_perm {D : va_G} {cl : List vw_C} {ws ws2 : va_W} {H : Heap} (h : va_P D cl ws H) (hp : ws.Perm ws2) : va_P D cl ws2 H := zP_mem h (fun _ hq => hp.mem_iff.mpr hq)
theorem zP_left {D : va_G} {cl : List vw_C} {a b : va_W} {H : Heap} (h : va_P D cl (a ++ b) H) : va_P D cl a H := zP_mem h (fun _ hq => List.mem_append_left _ hq)
theorem zD_left {A : Nat → Prop} {a b : va_W} (h : va_D A (a ++ b)) : va_D A a := by
  rw [zD_iff] at h ⊢
  rw [List.map_append] at h
  exact ⟨(List.nodup_append.mp h.1).1, fun q hq => h.2 q (List.mem_append_left _ hq)⟩
/-- what isn't in a part stays -/
theorem zframeX {A0 : Nat → Prop} {D : va_G} {cl : List vw_C} {wc w1 X : va_W} {H H1 : Heap} (hP : va_P D cl (wc ++ X) H) (hD : va_D A0 (wc ++ X)) (ha : w1.map Prod.fst = wc.map Prod.fst) (hk : ∀ q : Nat, q < H.size → ¬ va_A wc H.size q → H1[q]? = H[q]?) (hP1 : va_P D cl w1 H1) : va_P D cl (w1 ++ X) H1 ∧ va_D A0 (w1 ++ X) := by
  have hD2 := zD_iff.mp hD
  refine ⟨va_P.app hP1 (fun k q hq => ?_), ?_⟩
  · have hq2 : (wc ++ X)[wc.length + k]? = some q := by rw [List.getElem?_append_right (by omega)]; rw [show wc.length + k - wc.length = k by omega]; exact hq
    refine (hP _ q hq2).kept (hk q.1 (hP _ q hq2).lt ?_)
    rintro (⟨k2, e, h⟩ | h)
    · have hlt := (List.getElem?_eq_some_iff.mp h).1
      have := hD.1 (wc.length + k) k2 q (q.1, e) hq2 (by rw [List.getElem?_append_left hlt]; exact h) rfl
      omega
    · exact absurd (hP _ q hq2).lt (by omega)
  · rw [zD_iff]
    rw [List.map_append, ha, ← List.map_append]
    refine ⟨hD2.1, fun q hq => ?_⟩
    rcases List.mem_append.mp hq with h | h
    · have h2 : q.1 ∈ wc.map Prod.fst := by rw [← ha]; exact List.mem_map_of_mem h
      obtain ⟨q0, h3, h4⟩ := List.mem_map.mp h2
      rw [← h4]
      exact hD2.2 q0 (List.mem_append_left _ h3)
    · exact hD2.2 q (List.mem_append_right _ h)
section ZR2
variable {p : Program} {l : Launch} {e : Env} {R : Room} {s : State} {m : MethodId} {args : Array Value} {below : List Frame} {meth : Method} {c : Code} {H : Heap} {locs : List Loc} {cells slots : Nat} {Q : State → Prop}
variable {cc : ByteArray} {pc : Nat} {ls : Array Slot} {rest st0 : List Value} {g : zG} {A : Nat → Prop} {a : Nat} {ws ws' : va_W} {H0 : Heap}
/-- a call whose world is a part of the caller's, up to order -/
theorem z_wgoP {v : Option Value} {a : Array Value} {A0 : Nat → Prop} {W0 W1 wn : va_W} (hr : va_Run p l e R s m args below meth c H locs cells slots 0 0 (F0 m pc ls st0) rest (zWQ g (va_A W0 H.size) W1 v a) (va_A W0 H.size))
    (hP : va_P (zD g) vwCl ws H) (hD : va_D A0 ws) (hS : va_S A0 H0 H locs) (hA : ∀ q, H0.size ≤ q → A0 q) (X : va_W) (hp : ws.Perm (W0 ++ X)) (hadr : W1.map Prod.fst = W0.map Prod.fst) (hw : (W1 ++ X).Perm wn)
    (kk : ∀ (H1 : Heap) (locs1 : List Loc), va_P (zD g) vwCl wn H1 → va_D A0 wn → va_S A0 H0 H1 locs1 → W p l e R s m args below meth c H1 locs1 cells slots Q (F0 m (pc + 3) ls (v.toList ++ rest))) : W p l e R s m args below meth c H locs cells slots Q (F0 m pc ls st0) := by
  have hP' := zP_perm hP hp
  have hD' := zD_perm hD hp
  have hD0 := zD_left hD'
  have hF : ∀ q, va_A W0 H.size q → A0 q := by
    rintro q (⟨k, e, h⟩ | h)
    · exact hD0.2 k _ h
    · exact hA q (Nat.le_trans hS.1 h)
  intro T hT X9
  obtain ⟨v', st₀, t, T', L, h0, X', hL, e1, e2, ⟨hv, hP1, hD1, hz, hk⟩, st⟩ := hr T hT X9
  cases hv
  rw [h0] at hz hk
  obtain ⟨hPn, hDn⟩ := zframeX hP' hD' hadr (H1 := t.heap) hk hP1
  obtain ⟨t2, a1, b1⟩ := kk T'.heap (locs ++ L) (by rw [e1]; exact zP_perm hPn hw) (zD_perm hDn hw)
    ⟨Nat.le_trans hS.1 (by rw [e1]; exact hz), fun q h1 h2 => by rw [e1, hk q (Nat.lt_of_lt_of_le h1 hS.1) (fun z => h2 (hF q z))]; exact hS.2.1 q h1 h2, fun q hq => by
      rcases List.mem_append.mp hq with h | h
      · exact hS.2.2 q h
      · exact hF _ (hL q h)⟩ T' rfl X'
  exact ⟨t2, st t2 a1, b1⟩
end ZR2
theorem z_Psub {D : va_G} {cl : List vw_C} {ws ws2 : va_W} {H : Heap} (h : va_P D cl ws H) (is : List Nat) (hs : is.map (fun i => ws[i]?) = ws2.map some) : va_P D cl ws2 H := by
  intro k q hk
  obtain ⟨i, -, h2⟩ := zplace hs hk
  exact h i q h2
