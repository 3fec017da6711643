/-! ===== a call's new cells put back into a long world, by their places ===== -/
def repl (ws : va_W) (is : List Nat) (w1 : va_W) : va_W := (is.zip w1).foldl (fun a x => a.set x.1 x.2) ws
theorem repl_get : ∀ (is : List Nat) (w1 ws : va_W), is.length = w1.length → ∀ (k : Nat) (q : Nat × va_E), (repl ws is w1)[k]? = some q → (∃ j : Nat, is[j]? = some k ∧ w1[j]? = some q) ∨ (k ∉ is ∧ ws[k]? = some q)
  | [], w1, ws, _, k, q, h => Or.inr ⟨List.not_mem_nil, by unfold repl at h; rw [List.zip_nil_left, List.foldl_nil] at h; exact h⟩
  | i :: is, [], ws, hl, k, q, h => absurd hl (by rw [List.length_cons, List.length_nil]; omega)
  | i :: is, q1 :: qs, ws, hl, k, q, h => by
    rw [List.length_cons, List.length_cons] at hl
    unfold repl at h
    rw [List.zip_cons_cons, List.foldl_cons] at h
    rcases repl_get is qs (ws.set i q1) (by omega) k q h with ⟨j, h1, h2⟩ | ⟨h1, h2⟩
    · exact Or.inl ⟨j + 1, h1, h2⟩
    · by_cases e : k = i
      · subst e
        rw [List.getElem?_set, if_pos rfl] at h2
        by_cases hlt : k < ws.length
        · rw [if_pos hlt] at h2
          exact Or.inl ⟨0, rfl, h2⟩
        · rw [if_neg hlt] at h2
          cases h2
      · rw [List.getElem?_set, if_neg (fun h => e h.symm)] at h2
        exact Or.inr ⟨fun hm => (List.mem_cons.mp hm).elim e h1, h2⟩
theorem joinR {A0 : Nat → Prop} {D : va_G} {cl : List vw_C} {ws wc w1 : va_W} {H H1 : Heap} (hP : va_P D cl ws H) (hD : va_D A0 ws) (isC : List Nat) (hC : isC.map (fun i => ws[i]?) = wc.map some) (hl : isC.length = w1.length)
    (hk : ∀ q : Nat, q < H.size → ¬ va_A wc H.size q → H1[q]? = H[q]?) (hF : ∀ q, va_A wc H.size q → A0 q) (hP1 : va_P D cl w1 H1) (hD1 : va_D (va_A wc H.size) w1) : va_P D cl (repl ws isC w1) H1 ∧ va_D A0 (repl ws isC w1) := by
  have att : ∀ (k : Nat) (q : Nat × va_E), wc[k]? = some q → ∃ i, isC[k]? = some i ∧ ws[i]? = some q := by
    intro k q hq
    have h1 : (isC.map (fun i => ws[i]?))[k]? = some (some q) := by rw [hC, List.getElem?_map, hq]; rfl
    rw [List.getElem?_map] at h1
    cases hi : isC[k]? with
    | none => rw [hi] at h1; cases h1
    | some i => rw [hi] at h1; exact ⟨i, rfl, Option.some.inj h1⟩
  have apart : ∀ (k : Nat) (q : Nat × va_E), k ∉ isC → ws[k]? = some q → q.1 < H.size ∧ ¬ va_A wc H.size q.1 := by
    intro k q hn hq
    have hlt := (hP k q hq).lt
    refine ⟨hlt, fun h => ?_⟩
    rcases h with ⟨k2, e, h⟩ | h
    · obtain ⟨j, h3, h4⟩ := att k2 (q.1, e) h
      have hij := hD.1 k j q (q.1, e) hq h4 rfl
      subst hij
      exact hn (List.mem_of_getElem? h3)
    · omega
  refine ⟨fun k q hq => ?_, fun i j x y hx hy hxy => ?_, fun k q hq => ?_⟩
  · rcases repl_get isC w1 ws hl k q hq with ⟨j, h1, h2⟩ | ⟨h1, h2⟩
    · exact hP1 j q h2
    · obtain ⟨g1, g2⟩ := apart k q h1 h2
      exact (hP k q h2).kept (hk q.1 g1 g2)
  · rcases repl_get isC w1 ws hl i x hx with ⟨a, h1, h2⟩ | ⟨h1, h2⟩
    · rcases repl_get isC w1 ws hl j y hy with ⟨b, h3, h4⟩ | ⟨h3, h4⟩
      · have hab := hD1.1 a b x y h2 h4 hxy
        subst hab
        exact Option.some.inj (h1.symm.trans h3)
      · exact absurd (by rw [← hxy]; exact hD1.2 a x h2) (apart j y h3 h4).2
    · rcases repl_get isC w1 ws hl j y hy with ⟨b, h3, h4⟩ | ⟨h3, h4⟩
      · exact absurd (by rw [hxy]; exact hD1.2 b y h4) (apart i x h1 h2).2
      · exact hD.1 i j x y h2 h4 hxy
  · rcases repl_get isC w1 ws hl k q hq with ⟨j, h1, h2⟩ | ⟨h1, h2⟩
    · exact hF q.1 (hD1.2 j q h2)
    · exact hD.2 k q h2
