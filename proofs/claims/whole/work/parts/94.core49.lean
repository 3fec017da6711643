/-! ===== pure: promise 43 (plate), numbers and the whole ===== -/
def dl (v : Nat) : Nat → List Nat
  | 0 => []
  | e + 1 => (48 + v / 10 ^ e % 10) :: dl v e
theorem dl_len (v : Nat) : ∀ c, (dl v c).length = c
  | 0 => rfl
  | c + 1 => by rw [dl, List.length_cons, dl_len v c]
theorem dl_lt (v : Nat) : ∀ c x, x ∈ dl v c → x < 128
  | 0, x, h => absurd h List.not_mem_nil
  | c + 1, x, h => by
    rw [dl] at h
    rcases List.mem_cons.mp h with rfl | h
    · have : v / 10 ^ c % 10 < 10 := Nat.mod_lt _ (by omega)
      omega
    · exact dl_lt v c x h
def pw : Nat → Nat
  | 0 => 0
  | e + 1 => 10 ^ e
theorem pw_le : ∀ c, c ≤ 5 → pw c ≤ 10000
  | 0, _ => by decide
  | c + 1, h => Nat.le_trans (Nat.pow_le_pow_right (by omega) (show c ≤ 4 by omega)) (by decide)
theorem pw_div (c : Nat) (hc : c ≤ 4) : nI (10 ^ c) / 10 = nI (pw c) := by
  have hp : 10 ^ c ≤ 10000 := Nat.le_trans (Nat.pow_le_pow_right (by omega) hc) (by decide)
  rw [show (10 : Int32) = nI 10 from rfl, pk_div (by omega) (by omega) (by omega)]
  cases c with
  | zero => rfl
  | succ c => rw [Nat.pow_succ, Nat.mul_div_cancel _ (by omega), pw]
theorem dig_eq {v c : Nat} (hv : v < 100000) (hc : c ≤ 4) : 48 + ((nI v / nI (10 ^ c)) - (nI v / nI (10 ^ c)) / 10 * 10) = nI (48 + v / 10 ^ c % 10) := by
  have hp : 10 ^ c ≤ 10000 := Nat.le_trans (Nat.pow_le_pow_right (by omega) hc) (by decide)
  have hp0 : 0 < 10 ^ c := Nat.pow_pos (by omega)
  have hd : v / 10 ^ c ≤ v := Nat.div_le_self _ _
  rw [pk_div (by omega) hp0 (by omega), show (10 : Int32) = nI 10 from rfl, pk_rem (by omega) (by omega) (by omega), show (48 : Int32) = nI 48 from rfl, nI_add]
theorem num29 {v : Nat} (hv : v < 100000) : ∀ (c m n : Nat) (X : A1), c ≤ 5 → c < m → n + c ≤ 40 → lX10_putNumber_29 40 m (nI n) X (nI v) (nI (pw c)) = some (nI (n + c), wr (dl v c) n X) := by
  intro c
  induction c with
  | zero =>
    intro m n X _ hm _
    obtain ⟨m, rfl⟩ := sn hm
    rw [lX10_putNumber_29, if_pos (by decide)]
    rfl
  | succ c ih =>
    intro m n X hc hm hn
    obtain ⟨m, rfl⟩ := sn hm
    have hp := pw_le (c + 1) hc
    have hp0 : 0 < 10 ^ c := Nat.pow_pos (by omega)
    rw [pw] at hp ⊢
    have hl : v / 10 ^ c % 10 < 10 := Nat.mod_lt _ (by omega)
    rw [lX10_putNumber_29, if_neg (nI_nle hp0 (by omega)), gZ_ok (nI_ne0 hp0 (by omega)), nmv_eq, dig_eq hv (by omega), put_ok (n := n) (c := 48 + v / 10 ^ c % 10) X (by omega) (by omega), bind_eq, pw_div c (by omega)]
    show lX10_putNumber_29 40 m (nI (n + 1)) (upd X n (nI (48 + v / 10 ^ c % 10))) (nI v) (nI (pw c)) = _
    rw [ih m (n + 1) _ (by omega) (by omega) (by omega), dl, wr, show n + 1 + c = n + (c + 1) by omega]
theorem num4 {v e : Nat} (hv : v < 10 ^ (e + 1)) (he : e ≤ 4) (hlo : e = 0 ∨ 10 ^ e ≤ v) (k : Int32 → (Nat → Int32) → Int32 → Int32 → Option (Int32 × (Nat → Int32))) (z : Int32) (B : A1) : ∀ (t i m : Nat), i + t = e → t < m → lX10_putNumber_4 40 k m z B (nI v) (nI (10 ^ i)) (nI (i + 1)) = k z B (nI v) (nI (10 ^ e)) := by
  have hpe : 10 ^ e ≤ 10000 := Nat.le_trans (Nat.pow_le_pow_right (by omega) he) (by decide)
  have hv5 : v < 100000 := by
    rw [Nat.pow_succ] at hv
    omega
  intro t
  induction t with
  | zero =>
    intro i m hi hm
    obtain ⟨m, rfl⟩ := sn hm
    have e1 : i = e := by omega
    subst e1
    rw [lX10_putNumber_4, if_neg (show ¬ (6 : Int32) ≤ nI (i + 1) from nI_ge (b := 6) (by omega) (by omega)), show (10 : Int32) = nI 10 from rfl, pk_div (by omega) (by omega) (by omega), if_pos (nI_lt (by rw [Nat.pow_succ] at hv; omega) (by omega))]
  | succ t ih =>
    intro i m hi hm
    obtain ⟨m, rfl⟩ := sn hm
    have h1 : 10 ^ (i + 1) ≤ 10 ^ e := Nat.pow_le_pow_right (by omega) (by omega)
    have h2 : 10 ^ (i + 1) = 10 * 10 ^ i := by rw [Nat.pow_succ, Nat.mul_comm]
    have h3 : 10 ^ e ≤ v := by
      rcases hlo with h | h
      · omega
      · exact h
    rw [lX10_putNumber_4, if_neg (show ¬ (6 : Int32) ≤ nI (i + 1) from nI_ge (b := 6) (by omega) (by omega)), show (10 : Int32) = nI 10 from rfl, pk_div (by omega) (by omega) (by omega), if_neg (nI_nlt (by omega) (by omega)), pk_mul, nI_1, Nat.mul_comm (10 ^ i) 10, ← h2]
    exact ih (i + 1) m (by omega) (by omega)
theorem num_ok {v e n : Nat} (hv : v < 10 ^ (e + 1)) (he : e ≤ 4) (hlo : e = 0 ∨ 10 ^ e ≤ v) (X : A1) (hn : n + (e + 1) ≤ 40) : fX10_putNumber 40 (nI n) X (nI v) = some (nI (n + (e + 1)), wr (dl v (e + 1)) n X) := by
  have hpe : 10 ^ e ≤ 10000 := Nat.le_trans (Nat.pow_le_pow_right (by omega) he) (by decide)
  have hv5 : v < 100000 := by
    rw [Nat.pow_succ] at hv
    omega
  unfold fX10_putNumber
  have h := num4 hv he hlo (lX10_putNumber_29 40 5000) (nI n) X e 0 5000 (by omega) (by omega)
  rw [show nI (10 ^ 0) = 1 from rfl] at h
  rw [h]
  exact num29 hv5 (e + 1) 5000 n X (by omega) (by omega) hn
theorem m116w {s : A1} {nm : Nat → Int64} {v e : Nat} (hv : v < 100000) (hlo : 10 ^ e ≤ v) (th : Int32) : ∀ (c m n : Nat) (X : A1), c ≤ e + 1 → c ≤ 5 → c < m → n + c ≤ 40 → lX12_plate_116 s nm m th (nI n) X (nI v) (nI (pw c)) = some (nI (n + c), th, nI (n + c), wr (dl v c) n X) := by
  intro c
  induction c with
  | zero =>
    intro m n X _ _ hm _
    obtain ⟨m, rfl⟩ := sn hm
    rw [lX12_plate_116, if_pos (by decide)]
    rfl
  | succ c ih =>
    intro m n X hce hc hm hn
    obtain ⟨m, rfl⟩ := sn hm
    have hp := pw_le (c + 1) hc
    have hp0 : 0 < 10 ^ c := Nat.pow_pos (by omega)
    have hp1 : 10 ^ c ≤ 10 ^ e := Nat.pow_le_pow_right (by omega) (by omega)
    rw [pw] at hp ⊢
    have hl : v / 10 ^ c % 10 < 10 := Nat.mod_lt _ (by omega)
    rw [lX12_plate_116, if_neg (nI_nle hp0 (by omega)), if_neg (nI_nlt (by omega) (by omega)), gZ_ok (nI_ne0 hp0 (by omega)), nmv_eq, dig_eq hv (by omega), lays_ok (n := n) (c := 48 + v / 10 ^ c % 10) X (by omega) (by omega), bind_eq, pw_div c (by omega)]
    show lX12_plate_116 s nm m th (nI (n + 1)) (upd X n (nI (48 + v / 10 ^ c % 10))) (nI v) (nI (pw c)) = _
    rw [ih m (n + 1) _ (by omega) (by omega) (by omega) (by omega), dl, wr, show n + 1 + c = n + (c + 1) by omega]
theorem m116s {s : A1} {nm : Nat → Int64} {v e : Nat} (hv : v < 10 ^ (e + 1)) (he : e ≤ 4) (th z : Int32) (X : A1) : ∀ (t m : Nat), e + 1 + t ≤ 5 → lX12_plate_116 s nm (m + t) th z X (nI v) (nI (pw (e + 1 + t))) = lX12_plate_116 s nm m th z X (nI v) (nI (pw (e + 1))) := by
  intro t
  induction t with
  | zero => intro m _; rfl
  | succ t ih =>
    intro m ht
    have hp := pw_le (e + 1 + (t + 1)) ht
    have h1 : 10 ^ (e + 1) ≤ 10 ^ (e + 1 + t) := Nat.pow_le_pow_right (by omega) (by omega)
    rw [show e + 1 + (t + 1) = (e + 1 + t) + 1 by omega] at hp ⊢
    rw [pw] at hp ⊢
    rw [show m + (t + 1) = (m + t) + 1 by omega, lX12_plate_116, if_neg (nI_nle (by omega) (by omega)), if_pos (nI_lt (by omega) (by omega)), pw_div _ (by omega)]
    exact ih m (by omega)
theorem m116_ok {s : A1} {nm : Nat → Int64} {v e n : Nat} (hv : v < 10 ^ (e + 1)) (he : e ≤ 4) (hlo : 10 ^ e ≤ v) (th : Int32) (X : A1) (hn : n + (e + 1) ≤ 40) : lX12_plate_116 s nm 5000 th (nI n) X (nI v) 10000 = some (nI (n + (e + 1)), th, nI (n + (e + 1)), wr (dl v (e + 1)) n X) := by
  have hpe : 10 ^ e ≤ 10000 := Nat.le_trans (Nat.pow_le_pow_right (by omega) he) (by decide)
  have hv5 : v < 100000 := by
    rw [Nat.pow_succ] at hv
    omega
  have h := m116s (s := s) (nm := nm) hv he th (nI n) X (4 - e) (5000 - (4 - e)) (by omega)
  rw [show 5000 - (4 - e) + (4 - e) = 5000 by omega, show e + 1 + (4 - e) = 5 by omega] at h
  rw [show (10000 : Int32) = nI (pw 5) from rfl, h]
  exact m116w hv5 hlo th (e + 1) _ n X (by omega) (by omega) (by omega) hn
theorem pow_of {v : Nat} (h0 : 0 < v) (hv : v < 100000) : ∃ e, e ≤ 4 ∧ 10 ^ e ≤ v ∧ v < 10 ^ (e + 1) := by
  by_cases h1 : v < 10
  · exact ⟨0, by omega, by omega, by omega⟩
  by_cases h2 : v < 100
  · exact ⟨1, by omega, by omega, by omega⟩
  by_cases h3 : v < 1000
  · exact ⟨2, by omega, by omega, by omega⟩
  by_cases h4 : v < 10000
  · exact ⟨3, by omega, by omega, by omega⟩
  exact ⟨4, by omega, by omega, by omega⟩
