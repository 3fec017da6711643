/-! ===== what holds between two calls ===== -/
def INV (nt nw : Nat) (lf tz : Int32) (B : A1) (wz : Int32) (Wb : A1) (ch gu di : Int32) (gn : Nat → Int64) (pr spd py : A1) (dn : Nat → Int64) (cs : A1) (sit tak ser hid rnd ovr hst pia : Int32) (coins chairOf tired hosted owed paid : A1) (keys : Nat → Int64) (kept last : Int32) (ah : Nat → E9) (hl nb tc pc md wa : Int32) (L : A1) (jd why liv rth sth sl : Int32) (st sg va : A1) (ie : Nat → IE)
    (len : Int32) (tp : A1) (res : Nat → Int64) (ft : Int32) (s : A1) (nm : Nat → Int64) (um : Int32) (un : A1) (nx ts ht ps hp hm mm wt hpr : Int32) (R : A1) (tm : Int32) (X : A1) (hT : Int32) (ta : A1) (im : A1) (nk : Nat → Int64) (ak : A1) : Prop :=
  ∃ C G D n, RT n nt tz len B tp ∧ RKy keys res ∧ lf = ft ∧ RHl C G D ch gu di gn pr spd py dn cs s nm ∧ RFp C G D sit tak ser hid rnd ovr hst pia coins chairOf tired hosted owed paid s ∧ RA C G D kept last um ah un ∧ RLs hl hm L R ∧ nb = nx ∧ lastT tc ts ht ∧ lastT pc ps hp ∧ md = mm ∧ RWt wa wt hpr ∧ RTd jd why liv rth sth hT ta ∧ RSy G sl st sg va s ∧ RIm ie im nk ak ∧ RPl nw wz tm Wb X
def res0 : Nat → Int64 := vp_updL (vp_updL (vp_updL (vp_updL (vp_updL (vp_updL (vp_updL (vp_updL (vp_updL (vp_updL (vp_updL (vp_updL (vp_updL (vp_updL (vp_updL (vp_updL (vp_updL (vp_updL (vp_updL (vp_updL (vp_updL (vp_updL (fun _ => 0) 0 109299962049139) 1 444351214452) 2 1684632424) 3 1885436275) 4 1936290931) 5 491395442035) 6 495623239269) 7 1751737445) 8 1936224119) 9 491496238692) 10 28530) 11 6385252) 12 7237492) 13 126879263909220) 14 125848605582692) 15 512801993337) 16 25209) 17 6713202) 18 427070942835) 19 499985311076) 20 114827887666532) 21 121450625394034
theorem res0_ok : ∀ k, k < 22 → res0 k = w8 (kw k) := by decide +kernel
theorem keys0 : RKy keyK res0 := fun k hk => ⟨keyK_ok k hk, res0_ok k hk⟩
theorem bz : ∀ i, i < 32 → bt 0 i = false := by decide +kernel
theorem INV_init {s hh : A1} (h0 : (hh 0 = 6 ∧ ∀ i, 0 < i → i < 44 → hh i = 0) ∧ (∀ i, i < 44 → s i = hh i) ∧ ∀ i, 44 ≤ i → s i = 0) (ah : Nat → E9) (ie : Nat → IE) (hie : ∀ k, k < 2 → (ie k).1 = 0) (gn dn nm nk : Nat → Int64) (pr spd py cs coins chairOf tired hosted owed paid L st sg va un R X ta im Wb : A1) :
    INV 940 40 0 0 (fun _ => 0) 0 Wb 6 0 0 gn pr spd py dn cs 0 0 0 0 0 0 (-1) 0 coins chairOf tired hosted owed paid keyK 0 0 ah 0 (-1) (-1) (-1) (-1) (-1) L 0 0 0 0 0 0 st sg va ie
      0 (fun _ => 0) res0 0 s nm 0 un (-1) 0 0 0 0 (-1) (-1) 0 0 R 0 X 0 ta im nk (fun _ => 0) := by
  obtain ⟨⟨h6, hz⟩, hs, hs0⟩ := h0
  have sm0 : ∀ n : Nat, sm n 0 := fun n k h1 h2 => bz k (by omega)
  refine ⟨6, 0, 0, 0, ⟨rfl, by omega, rfl, rfl, fun _ _ => rfl, fun _ _ => ⟨0, rfl⟩⟩, keys0, rfl, ⟨rfl, rfl, rfl, ⟨⟨by omega, by omega, by omega, by omega, by omega⟩, ⟨?_, ?_, ?_⟩, fun g hg => absurd hg (Nat.not_lt_zero g), fun g hg => absurd hg (Nat.not_lt_zero g)⟩, fun g hg => absurd hg (Nat.not_lt_zero g), fun g hg => absurd hg (Nat.not_lt_zero g)⟩, ⟨⟨0, by omega, rfl⟩, ?_, ⟨⟨⟨hs0 44 (by omega), hs0 45 (by omega), hs0 46 (by omega), hs0 47 (by omega), hs0 48 (by omega), hs0 63 (by omega)⟩, fun g hg => absurd hg (Nat.not_lt_zero g)⟩, ⟨sm0 _, sm0 _, sm0 _, sm0 _, fun g hg => absurd hg (Nat.not_lt_zero g), ⟨fun c hc => ⟨fun h => absurd h (by rw [bz c (by omega)]; decide), fun ⟨g, hg, _⟩ => absurd hg (Nat.not_lt_zero g)⟩, fun g _ hg => absurd hg (Nat.not_lt_zero g)⟩⟩, ⟨fun g hg => absurd hg (Nat.not_lt_zero g), rfl⟩⟩⟩, ⟨0, 0, by omega, by omega, rfl, rfl, rfl, fun j hj => absurd hj (Nat.not_lt_zero j)⟩, ⟨0, by omega, rfl, Or.inr ⟨rfl, rfl⟩, fun i hi => absurd hi (Nat.not_lt_zero i)⟩, rfl, Or.inl ⟨rfl, rfl⟩, Or.inl ⟨rfl, rfl⟩, rfl, Or.inl ⟨rfl, rfl⟩, Or.inl ⟨rfl, rfl⟩, ⟨0, by omega, rfl, hs0 92 (by omega), Or.inl rfl, ?_, fun i hi => absurd hi (Nat.not_lt_zero i)⟩, fun k hk => Or.inl ⟨rfl, hie k hk⟩, ⟨rfl, 0, by omega, rfl, rfl, fun i hi => absurd hi (Nat.not_lt_zero i)⟩⟩
  · rw [hs 0 (by omega), h6]
    rfl
  · rw [hs 1 (by omega), hz 1 (by omega) (by omega)]
    rfl
  · rw [hs 2 (by omega), hz 2 (by omega) (by omega)]
    rfl
  · decide
  · intro i hi
    exact absurd hi (Nat.not_lt_zero i)
