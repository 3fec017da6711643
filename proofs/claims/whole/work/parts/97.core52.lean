/-! ===== every call keeps what holds, and both answer alike ===== -/
section Calls9
variable {nt : Nat} {nw : Nat} {lf : Int32} {tz : Int32} {B : A1} {wz : Int32} {Wb : A1} {ch : Int32} {gu : Int32} {di : Int32} {gn : Nat → Int64} {pr : A1} {spd : A1} {py : A1} {dn : Nat → Int64} {cs : A1} {sit : Int32} {tak : Int32} {ser : Int32} {hid : Int32} {rnd : Int32} {ovr : Int32} {hst : Int32} {pia : Int32} {coins : A1} {chairOf : A1} {tired : A1} {hosted : A1} {owed : A1} {paid : A1} {keys : Nat → Int64} {kept : Int32} {last : Int32} {ah : Nat → E9} {hl : Int32} {nb : Int32} {tc : Int32} {pc : Int32} {md : Int32} {wa : Int32} {L : A1} {jd : Int32} {why : Int32} {liv : Int32} {rth : Int32} {sth : Int32} {sl : Int32} {st : A1} {sg : A1} {va : A1} {ie : Nat → IE} {len : Int32} {tp : A1} {res : Nat → Int64} {ft : Int32} {s : A1} {nm : Nat → Int64} {um : Int32} {un : A1} {nx : Int32} {ts : Int32} {ht : Int32} {ps : Int32} {hp : Int32} {hm : Int32} {mm : Int32} {wt : Int32} {hpr : Int32} {R : A1} {tm : Int32} {X : A1} {htd : Int32} {ta : A1} {im : A1} {nk : Nat → Int64} {ak : A1}
theorem S_fault (hI : INV nt nw lf tz B wz Wb ch gu di gn pr spd py dn cs sit tak ser hid rnd ovr hst pia coins chairOf tired hosted owed paid keys kept last ah hl nb tc pc md wa L jd why liv rth sth sl st sg va ie len tp res ft s nm um un nx ts ht ps hp hm mm wt hpr R tm X htd ta im nk ak) (th : Int32) :
    ∃ r, fX11_fault lf = some r ∧ fX12_fault ft th = some (r, 0) := by
  obtain ⟨C, G, D, n, hT, hK, rfl, ⟨rfl, rfl, rfl, hH, hN1, hN2⟩, hFp, hA, hL, rfl, hl1, hl2, rfl, hW, hTd, hY, hIm, hPl⟩ := id hI
  have hFp0 := hFp
  obtain ⟨⟨ρ, hρ, rfl⟩, hpop, hF⟩ := hFp0
  exact ⟨_, rfl, rfl⟩
theorem S_nextIn (hI : INV nt nw lf tz B wz Wb ch gu di gn pr spd py dn cs sit tak ser hid rnd ovr hst pia coins chairOf tired hosted owed paid keys kept last ah hl nb tc pc md wa L jd why liv rth sth sl st sg va ie len tp res ft s nm um un nx ts ht ps hp hm mm wt hpr R tm X htd ta im nk ak) (th : Int32) :
    ∃ r, fX11_nextIn nb = some r ∧ fX12_nextIn nx th = some (r, 0) := by
  obtain ⟨C, G, D, n, hT, hK, rfl, ⟨rfl, rfl, rfl, hH, hN1, hN2⟩, hFp, hA, hL, rfl, hl1, hl2, rfl, hW, hTd, hY, hIm, hPl⟩ := id hI
  have hFp0 := hFp
  obtain ⟨⟨ρ, hρ, rfl⟩, hpop, hF⟩ := hFp0
  exact ⟨_, rfl, rfl⟩
theorem S_menuOf (hI : INV nt nw lf tz B wz Wb ch gu di gn pr spd py dn cs sit tak ser hid rnd ovr hst pia coins chairOf tired hosted owed paid keys kept last ah hl nb tc pc md wa L jd why liv rth sth sl st sg va ie len tp res ft s nm um un nx ts ht ps hp hm mm wt hpr R tm X htd ta im nk ak) (th : Int32) :
    ∃ r, fX11_menuOf md = some r ∧ fX12_menuOf mm th = some (r, 0) := by
  obtain ⟨C, G, D, n, hT, hK, rfl, ⟨rfl, rfl, rfl, hH, hN1, hN2⟩, hFp, hA, hL, rfl, hl1, hl2, rfl, hW, hTd, hY, hIm, hPl⟩ := id hI
  have hFp0 := hFp
  obtain ⟨⟨ρ, hρ, rfl⟩, hpop, hF⟩ := hFp0
  exact ⟨_, rfl, rfl⟩
theorem S_chair (hI : INV nt nw lf tz B wz Wb ch gu di gn pr spd py dn cs sit tak ser hid rnd ovr hst pia coins chairOf tired hosted owed paid keys kept last ah hl nb tc pc md wa L jd why liv rth sth sl st sg va ie len tp res ft s nm um un nx ts ht ps hp hm mm wt hpr R tm X htd ta im nk ak) (th x y : Int32) :
    ∃ r, fX11_chair ch gu sit hid chairOf x y = some r ∧ fX12_chair s th x y = some (r, 0) := by
  obtain ⟨C, G, D, n, hT, hK, rfl, ⟨rfl, rfl, rfl, hH, hN1, hN2⟩, hFp, hA, hL, rfl, hl1, hl2, rfl, hW, hTd, hY, hIm, hPl⟩ := id hI
  have hFp0 := hFp
  obtain ⟨⟨ρ, hρ, rfl⟩, hpop, hF⟩ := hFp0
  exact T_chair hH hρ hF th x y
theorem S_now (hI : INV nt nw lf tz B wz Wb ch gu di gn pr spd py dn cs sit tak ser hid rnd ovr hst pia coins chairOf tired hosted owed paid keys kept last ah hl nb tc pc md wa L jd why liv rth sth sl st sg va ie len tp res ft s nm um un nx ts ht ps hp hm mm wt hpr R tm X htd ta im nk ak) (th x : Int32) :
    ∃ r, fX11_now di cs sit ser hid rnd ovr hst pia x = some r ∧ fX12_now s th x = some (r, 0) := by
  obtain ⟨C, G, D, n, hT, hK, rfl, ⟨rfl, rfl, rfl, hH, hN1, hN2⟩, hFp, hA, hL, rfl, hl1, hl2, rfl, hW, hTd, hY, hIm, hPl⟩ := id hI
  have hFp0 := hFp
  obtain ⟨⟨ρ, hρ, rfl⟩, hpop, hF⟩ := hFp0
  exact T_now hH hρ hF th x
theorem S_when (hI : INV nt nw lf tz B wz Wb ch gu di gn pr spd py dn cs sit tak ser hid rnd ovr hst pia coins chairOf tired hosted owed paid keys kept last ah hl nb tc pc md wa L jd why liv rth sth sl st sg va ie len tp res ft s nm um un nx ts ht ps hp hm mm wt hpr R tm X htd ta im nk ak) (th x y : Int32) :
    ∃ r, fX11_when ch gu spd chairOf x y = some r ∧ fX12_when s th x y = some (r, 0) := by
  obtain ⟨C, G, D, n, hT, hK, rfl, ⟨rfl, rfl, rfl, hH, hN1, hN2⟩, hFp, hA, hL, rfl, hl1, hl2, rfl, hW, hTd, hY, hIm, hPl⟩ := id hI
  have hFp0 := hFp
  obtain ⟨⟨ρ, hρ, rfl⟩, hpop, hF⟩ := hFp0
  exact T_when hH hρ hF th x y
theorem S_hostAt (hI : INV nt nw lf tz B wz Wb ch gu di gn pr spd py dn cs sit tak ser hid rnd ovr hst pia coins chairOf tired hosted owed paid keys kept last ah hl nb tc pc md wa L jd why liv rth sth sl st sg va ie len tp res ft s nm um un nx ts ht ps hp hm mm wt hpr R tm X htd ta im nk ak) (th x : Int32) :
    ∃ r, fX11_hostAt hl L x = some r ∧ fX12_hostAt hm R th x = some (r, 0) := by
  obtain ⟨C, G, D, n, hT, hK, rfl, ⟨rfl, rfl, rfl, hH, hN1, hN2⟩, hFp, hA, hL, rfl, hl1, hl2, rfl, hW, hTd, hY, hIm, hPl⟩ := id hI
  have hFp0 := hFp
  obtain ⟨⟨ρ, hρ, rfl⟩, hpop, hF⟩ := hFp0
  exact T_hostAt hL th x
theorem S_told (hI : INV nt nw lf tz B wz Wb ch gu di gn pr spd py dn cs sit tak ser hid rnd ovr hst pia coins chairOf tired hosted owed paid keys kept last ah hl nb tc pc md wa L jd why liv rth sth sl st sg va ie len tp res ft s nm um un nx ts ht ps hp hm mm wt hpr R tm X htd ta im nk ak) (th x : Int32) :
    ∃ r, fX11_told jd why liv rth sth x = some r ∧ fX12_told htd ta th x = some (r, 0) := by
  obtain ⟨C, G, D, n, hT, hK, rfl, ⟨rfl, rfl, rfl, hH, hN1, hN2⟩, hFp, hA, hL, rfl, hl1, hl2, rfl, hW, hTd, hY, hIm, hPl⟩ := id hI
  have hFp0 := hFp
  obtain ⟨⟨ρ, hρ, rfl⟩, hpop, hF⟩ := hFp0
  exact T_told hTd th x
theorem S_byteAt (hI : INV nt nw lf tz B wz Wb ch gu di gn pr spd py dn cs sit tak ser hid rnd ovr hst pia coins chairOf tired hosted owed paid keys kept last ah hl nb tc pc md wa L jd why liv rth sth sl st sg va ie len tp res ft s nm um un nx ts ht ps hp hm mm wt hpr R tm X htd ta im nk ak) (th x : Int32) :
    ∃ r, fX11_byteAt nw wz Wb x = some r ∧ fX12_byteAt tm X th x = some (r, 0) := by
  obtain ⟨C, G, D, n, hT, hK, rfl, ⟨rfl, rfl, rfl, hH, hN1, hN2⟩, hFp, hA, hL, rfl, hl1, hl2, rfl, hW, hTd, hY, hIm, hPl⟩ := id hI
  have hFp0 := hFp
  obtain ⟨⟨ρ, hρ, rfl⟩, hpop, hF⟩ := hFp0
  exact T_byteAt hPl th x
theorem S_tricking (hI : INV nt nw lf tz B wz Wb ch gu di gn pr spd py dn cs sit tak ser hid rnd ovr hst pia coins chairOf tired hosted owed paid keys kept last ah hl nb tc pc md wa L jd why liv rth sth sl st sg va ie len tp res ft s nm um un nx ts ht ps hp hm mm wt hpr R tm X htd ta im nk ak) (th : Int32) :
    ∃ r, fX11_tricking tc = some r ∧ fX12_tricking ts ht th = some (r, 0) := by
  obtain ⟨C, G, D, n, hT, hK, rfl, ⟨rfl, rfl, rfl, hH, hN1, hN2⟩, hFp, hA, hL, rfl, hl1, hl2, rfl, hW, hTd, hY, hIm, hPl⟩ := id hI
  have hFp0 := hFp
  obtain ⟨⟨ρ, hρ, rfl⟩, hpop, hF⟩ := hFp0
  exact T_tricking hl1 th
theorem S_pushing (hI : INV nt nw lf tz B wz Wb ch gu di gn pr spd py dn cs sit tak ser hid rnd ovr hst pia coins chairOf tired hosted owed paid keys kept last ah hl nb tc pc md wa L jd why liv rth sth sl st sg va ie len tp res ft s nm um un nx ts ht ps hp hm mm wt hpr R tm X htd ta im nk ak) (th : Int32) :
    ∃ r, fX11_pushing pc = some r ∧ fX12_pushing ps hp th = some (r, 0) := by
  obtain ⟨C, G, D, n, hT, hK, rfl, ⟨rfl, rfl, rfl, hH, hN1, hN2⟩, hFp, hA, hL, rfl, hl1, hl2, rfl, hW, hTd, hY, hIm, hPl⟩ := id hI
  have hFp0 := hFp
  obtain ⟨⟨ρ, hρ, rfl⟩, hpop, hF⟩ := hFp0
  exact T_pushing hl2 th
theorem S_watch (hI : INV nt nw lf tz B wz Wb ch gu di gn pr spd py dn cs sit tak ser hid rnd ovr hst pia coins chairOf tired hosted owed paid keys kept last ah hl nb tc pc md wa L jd why liv rth sth sl st sg va ie len tp res ft s nm um un nx ts ht ps hp hm mm wt hpr R tm X htd ta im nk ak) (th : Int32) :
    ∃ r, fX11_watch wa = some r ∧ fX12_watch wt hpr th = some (r, 0) := by
  obtain ⟨C, G, D, n, hT, hK, rfl, ⟨rfl, rfl, rfl, hH, hN1, hN2⟩, hFp, hA, hL, rfl, hl1, hl2, rfl, hW, hTd, hY, hIm, hPl⟩ := id hI
  have hFp0 := hFp
  obtain ⟨⟨ρ, hρ, rfl⟩, hpop, hF⟩ := hFp0
  exact T_watch hW th
theorem S_count (hI : INV nt nw lf tz B wz Wb ch gu di gn pr spd py dn cs sit tak ser hid rnd ovr hst pia coins chairOf tired hosted owed paid keys kept last ah hl nb tc pc md wa L jd why liv rth sth sl st sg va ie len tp res ft s nm um un nx ts ht ps hp hm mm wt hpr R tm X htd ta im nk ak) (n0 th x : Int32) :
    ∃ r, fX11_count n0 ch gu di x = some r ∧ fX12_count n0 s th x = some (r, 0) := by
  obtain ⟨C, G, D, n, hT, hK, rfl, ⟨rfl, rfl, rfl, hH, hN1, hN2⟩, hFp, hA, hL, rfl, hl1, hl2, rfl, hW, hTd, hY, hIm, hPl⟩ := id hI
  have hFp0 := hFp
  obtain ⟨⟨ρ, hρ, rfl⟩, hpop, hF⟩ := hFp0
  exact T_count hH n0 th x
theorem S_linger (hI : INV nt nw lf tz B wz Wb ch gu di gn pr spd py dn cs sit tak ser hid rnd ovr hst pia coins chairOf tired hosted owed paid keys kept last ah hl nb tc pc md wa L jd why liv rth sth sl st sg va ie len tp res ft s nm um un nx ts ht ps hp hm mm wt hpr R tm X htd ta im nk ak) (t1 t2 t3 t4 t5 t6 t7 t8 : Int32) (u1 u2 u3 u4 u5 u6 : A1) (th : Int32) (bf : A1) (x : Int32) :
    ∃ (r : Int32) (t1' t2' t3' t4' t5' t6' t7' t8' : Int32) (u1' u2' u3' u4' u5' u6' : A1) (bf' : A1), fX11_linger ch gu di pr spd py cs sit tak ser hid rnd ovr hst pia coins chairOf tired hosted owed paid t1 t2 t3 t4 t5 t6 t7 t8 u1 u2 u3 u4 u5 u6 x = some (r, t1', t2', t3', t4', t5', t6', t7', t8', u1', u2', u3', u4', u5', u6') ∧ fX12_linger th s bf x = some (r, 0, s, bf') := by
  obtain ⟨C, G, D, n, hT, hK, rfl, ⟨rfl, rfl, rfl, hH, hN1, hN2⟩, hFp, hA, hL, rfl, hl1, hl2, rfl, hW, hTd, hY, hIm, hPl⟩ := id hI
  have hFp0 := hFp
  obtain ⟨⟨ρ, hρ, rfl⟩, hpop, hF⟩ := hFp0
  exact T_linger hH hρ hF t1 t2 t3 t4 t5 t6 t7 t8 u1 u2 u3 u4 u5 u6 th bf x
theorem S_safe (hI : INV nt nw lf tz B wz Wb ch gu di gn pr spd py dn cs sit tak ser hid rnd ovr hst pia coins chairOf tired hosted owed paid keys kept last ah hl nb tc pc md wa L jd why liv rth sth sl st sg va ie len tp res ft s nm um un nx ts ht ps hp hm mm wt hpr R tm X htd ta im nk ak) (t1 t2 t3 t4 t5 t6 t7 t8 : Int32) (u1 u2 u3 u4 u5 u6 : A1) (th hi : Int32) (bf : A1) (x : Int32) :
    ∃ (r : Int32) (t1' t2' t3' t4' t5' t6' t7' t8' : Int32) (u1' u2' u3' u4' u5' u6' : A1) (hi' : Int32) (bf' : A1), fX11_safe ch gu di pr spd py cs sit tak ser hid rnd ovr hst pia coins chairOf tired hosted owed paid t1 t2 t3 t4 t5 t6 t7 t8 u1 u2 u3 u4 u5 u6 x = some (r, t1', t2', t3', t4', t5', t6', t7', t8', u1', u2', u3', u4', u5', u6') ∧ fX12_safe th hi s bf x = some (r, 0, hi', s, bf') := by
  obtain ⟨C, G, D, n, hT, hK, rfl, ⟨rfl, rfl, rfl, hH, hN1, hN2⟩, hFp, hA, hL, rfl, hl1, hl2, rfl, hW, hTd, hY, hIm, hPl⟩ := id hI
  have hFp0 := hFp
  obtain ⟨⟨ρ, hρ, rfl⟩, hpop, hF⟩ := hFp0
  exact T_safe hH hρ hF t1 t2 t3 t4 t5 t6 t7 t8 u1 u2 u3 u4 u5 u6 th hi bf x
theorem S_odds (hI : INV nt nw lf tz B wz Wb ch gu di gn pr spd py dn cs sit tak ser hid rnd ovr hst pia coins chairOf tired hosted owed paid keys kept last ah hl nb tc pc md wa L jd why liv rth sth sl st sg va ie len tp res ft s nm um un nx ts ht ps hp hm mm wt hpr R tm X htd ta im nk ak) (t1 t2 t3 t4 t5 t6 t7 t8 : Int32) (u1 u2 u3 u4 u5 u6 : A1) (lo th sd : Int32) (bf : A1) (x y z : Int32) :
    ∃ (r lo' sd' : Int32) (t1' t2' t3' t4' t5' t6' t7' t8' : Int32) (u1' u2' u3' u4' u5' u6' : A1) (bf' : A1), fX11_odds ch gu di pr spd py cs sit tak ser hid rnd ovr hst pia coins chairOf tired hosted owed paid t1 t2 t3 t4 t5 t6 t7 t8 lo u1 u2 u3 u4 u5 u6 x y z = some (r, t1', t2', t3', t4', t5', t6', t7', t8', lo', u1', u2', u3', u4', u5', u6') ∧ fX12_odds th sd s bf x y z = some (r, 0, sd', s, bf') := by
  obtain ⟨C, G, D, n, hT, hK, rfl, ⟨rfl, rfl, rfl, hH, hN1, hN2⟩, hFp, hA, hL, rfl, hl1, hl2, rfl, hW, hTd, hY, hIm, hPl⟩ := id hI
  have hFp0 := hFp
  obtain ⟨⟨ρ, hρ, rfl⟩, hpop, hF⟩ := hFp0
  exact T_odds hH hρ hF t1 t2 t3 t4 t5 t6 t7 t8 u1 u2 u3 u4 u5 u6 lo th sd bf x y z
theorem S_said (hI : INV nt nw lf tz B wz Wb ch gu di gn pr spd py dn cs sit tak ser hid rnd ovr hst pia coins chairOf tired hosted owed paid keys kept last ah hl nb tc pc md wa L jd why liv rth sth sl st sg va ie len tp res ft s nm um un nx ts ht ps hp hm mm wt hpr R tm X htd ta im nk ak) (pile : A1) (th : Int32) (tr : A1) (x : Int32) :
    ∃ (r : Int32) (pile' tr' : A1), fX11_said gu pr py sit coins chairOf tired hosted owed sl st sg va pile x = some (r, pile') ∧ fX12_said s th tr x = some (r, 0, tr') := by
  obtain ⟨C, G, D, n, hT, hK, rfl, ⟨rfl, rfl, rfl, hH, hN1, hN2⟩, hFp, hA, hL, rfl, hl1, hl2, rfl, hW, hTd, hY, hIm, hPl⟩ := id hI
  have hFp0 := hFp
  obtain ⟨⟨ρ, hρ, rfl⟩, hpop, hF⟩ := hFp0
  exact T_said hH hFp hY pile th tr x
theorem S_next (hI : INV nt nw lf tz B wz Wb ch gu di gn pr spd py dn cs sit tak ser hid rnd ovr hst pia coins chairOf tired hosted owed paid keys kept last ah hl nb tc pc md wa L jd why liv rth sth sl st sg va ie len tp res ft s nm um un nx ts ht ps hp hm mm wt hpr R tm X htd ta im nk ak) (t1 t2 t3 t4 t5 t6 t7 t8 : Int32) (u1 u2 u3 u4 u5 u6 : A1) (th hi : Int32) (bf : A1) :
    ∃ (r nb' : Int32) (t1' t2' t3' t4' t5' t6' t7' t8' : Int32) (u1' u2' u3' u4' u5' u6' : A1) (hi' : Int32) (bf' : A1), fX11_next ch gu di pr spd py cs sit tak ser hid rnd ovr hst pia coins chairOf tired hosted owed paid nb t1 t2 t3 t4 t5 t6 t7 t8 u1 u2 u3 u4 u5 u6 = some (r, nb', t1', t2', t3', t4', t5', t6', t7', t8', u1', u2', u3', u4', u5', u6') ∧ fX12_next th hi nx s bf = some (r, 0, hi', nb', s, bf') ∧ INV nt nw lf tz B wz Wb ch gu di gn pr spd py dn cs sit tak ser hid rnd ovr hst pia coins chairOf tired hosted owed paid keys kept last ah hl nb' tc pc md wa L jd why liv rth sth sl st sg va ie len tp res ft s nm um un nb' ts ht ps hp hm mm wt hpr R tm X htd ta im nk ak := by
  obtain ⟨C, G, D, n, hT, hK, rfl, ⟨rfl, rfl, rfl, hH, hN1, hN2⟩, hFp, hA, hL, rfl, hl1, hl2, rfl, hW, hTd, hY, hIm, hPl⟩ := id hI
  have hFp0 := hFp
  obtain ⟨⟨ρ, hρ, rfl⟩, hpop, hF⟩ := hFp0
  obtain ⟨r, nb', a1, a2, a3, a4, a5, a6, a7, a8, b1, b2, b3, b4, b5, b6, hi', bf', z1, z2⟩ := T_next hH hρ hF nb t1 t2 t3 t4 t5 t6 t7 t8 u1 u2 u3 u4 u5 u6 th hi bf
  exact ⟨r, nb', a1, a2, a3, a4, a5, a6, a7, a8, b1, b2, b3, b4, b5, b6, hi', bf', z1, z2, ⟨C, G, D, n, hT, hK, rfl, ⟨rfl, rfl, rfl, hH, hN1, hN2⟩, hFp, hA, hL, rfl, hl1, hl2, rfl, hW, hTd, hY, hIm, hPl⟩⟩
theorem S_trick (hI : INV nt nw lf tz B wz Wb ch gu di gn pr spd py dn cs sit tak ser hid rnd ovr hst pia coins chairOf tired hosted owed paid keys kept last ah hl nb tc pc md wa L jd why liv rth sth sl st sg va ie len tp res ft s nm um un nx ts ht ps hp hm mm wt hpr R tm X htd ta im nk ak) (t1 t2 t3 t4 t5 t6 t7 t8 : Int32) (u1 u2 u3 u4 u5 u6 : A1) (th hi : Int32) (bf : A1) (x : Int32) :
    ∃ (r tc' : Int32) (t1' t2' t3' t4' t5' t6' t7' t8' : Int32) (u1' u2' u3' u4' u5' u6' : A1) (hi' ts' ht' : Int32) (bf' : A1), fX11_trick ch gu di pr spd py cs sit tak ser hid rnd ovr hst pia coins chairOf tired hosted owed paid tc t1 t2 t3 t4 t5 t6 t7 t8 u1 u2 u3 u4 u5 u6 x = some (r, tc', t1', t2', t3', t4', t5', t6', t7', t8', u1', u2', u3', u4', u5', u6') ∧ fX12_trick th hi ts ht s bf x = some (r, 0, hi', ts', ht', s, bf') ∧ INV nt nw lf tz B wz Wb ch gu di gn pr spd py dn cs sit tak ser hid rnd ovr hst pia coins chairOf tired hosted owed paid keys kept last ah hl nb tc' pc md wa L jd why liv rth sth sl st sg va ie len tp res ft s nm um un nx ts' ht' ps hp hm mm wt hpr R tm X htd ta im nk ak := by
  obtain ⟨C, G, D, n, hT, hK, rfl, ⟨rfl, rfl, rfl, hH, hN1, hN2⟩, hFp, hA, hL, rfl, hl1, hl2, rfl, hW, hTd, hY, hIm, hPl⟩ := id hI
  have hFp0 := hFp
  obtain ⟨⟨ρ, hρ, rfl⟩, hpop, hF⟩ := hFp0
  obtain ⟨r, tc', a1, a2, a3, a4, a5, a6, a7, a8, b1, b2, b3, b4, b5, b6, hi', ts', ht', bf', z1, z2, z3⟩ := T_trick hH hρ hF hpop hl1 t1 t2 t3 t4 t5 t6 t7 t8 u1 u2 u3 u4 u5 u6 th hi bf x
  exact ⟨r, tc', a1, a2, a3, a4, a5, a6, a7, a8, b1, b2, b3, b4, b5, b6, hi', ts', ht', bf', z1, z2, ⟨C, G, D, n, hT, hK, rfl, ⟨rfl, rfl, rfl, hH, hN1, hN2⟩, hFp, hA, hL, rfl, z3, hl2, rfl, hW, hTd, hY, hIm, hPl⟩⟩
theorem S_push (hI : INV nt nw lf tz B wz Wb ch gu di gn pr spd py dn cs sit tak ser hid rnd ovr hst pia coins chairOf tired hosted owed paid keys kept last ah hl nb tc pc md wa L jd why liv rth sth sl st sg va ie len tp res ft s nm um un nx ts ht ps hp hm mm wt hpr R tm X htd ta im nk ak) (t1 t2 t3 t4 t5 t6 t7 t8 : Int32) (u1 u2 u3 u4 u5 u6 : A1) (th hi : Int32) (bf : A1) (x : Int32) :
    ∃ (r tc' : Int32) (t1' t2' t3' t4' t5' t6' t7' t8' : Int32) (u1' u2' u3' u4' u5' u6' : A1) (hi' ts' ht' : Int32) (bf' : A1), fX11_push ch gu di pr spd py cs sit tak ser hid rnd ovr hst pia coins chairOf tired hosted owed paid pc t1 t2 t3 t4 t5 t6 t7 t8 u1 u2 u3 u4 u5 u6 x = some (r, tc', t1', t2', t3', t4', t5', t6', t7', t8', u1', u2', u3', u4', u5', u6') ∧ fX12_push th hi ps hp s bf x = some (r, 0, hi', ts', ht', s, bf') ∧ INV nt nw lf tz B wz Wb ch gu di gn pr spd py dn cs sit tak ser hid rnd ovr hst pia coins chairOf tired hosted owed paid keys kept last ah hl nb tc tc' md wa L jd why liv rth sth sl st sg va ie len tp res ft s nm um un nx ts ht ts' ht' hm mm wt hpr R tm X htd ta im nk ak := by
  obtain ⟨C, G, D, n, hT, hK, rfl, ⟨rfl, rfl, rfl, hH, hN1, hN2⟩, hFp, hA, hL, rfl, hl1, hl2, rfl, hW, hTd, hY, hIm, hPl⟩ := id hI
  have hFp0 := hFp
  obtain ⟨⟨ρ, hρ, rfl⟩, hpop, hF⟩ := hFp0
  obtain ⟨r, tc', a1, a2, a3, a4, a5, a6, a7, a8, b1, b2, b3, b4, b5, b6, hi', ts', ht', bf', z1, z2, z3⟩ := T_push hH hρ hF hl2 t1 t2 t3 t4 t5 t6 t7 t8 u1 u2 u3 u4 u5 u6 th hi bf x
  exact ⟨r, tc', a1, a2, a3, a4, a5, a6, a7, a8, b1, b2, b3, b4, b5, b6, hi', ts', ht', bf', z1, z2, ⟨C, G, D, n, hT, hK, rfl, ⟨rfl, rfl, rfl, hH, hN1, hN2⟩, hFp, hA, hL, rfl, hl1, z3, rfl, hW, hTd, hY, hIm, hPl⟩⟩
theorem S_hosts (hI : INV nt nw lf tz B wz Wb ch gu di gn pr spd py dn cs sit tak ser hid rnd ovr hst pia coins chairOf tired hosted owed paid keys kept last ah hl nb tc pc md wa L jd why liv rth sth sl st sg va ie len tp res ft s nm um un nx ts ht ps hp hm mm wt hpr R tm X htd ta im nk ak) (t1 t2 t3 t4 t5 t6 t7 t8 : Int32) (u1 u2 u3 u4 u5 u6 : A1) (th : Int32) (p : A1) (x : Int32) :
    ∃ (r hl' hm' : Int32) (t1' t2' t3' t4' t5' t6' t7' t8' : Int32) (u1' u2' u3' u4' u5' u6' : A1) (L' R' p' : A1), fX11_hosts gu py sit tak ser hid rnd ovr hst pia coins chairOf tired hosted owed paid hl t1 t2 t3 t4 t5 t6 t7 t8 u1 u2 u3 u4 u5 u6 L x = some (r, hl', t1', t2', t3', t4', t5', t6', t7', t8', u1', u2', u3', u4', u5', u6', L') ∧ fX12_hosts s th hm p R x = some (r, 0, hm', p', R') ∧ INV nt nw lf tz B wz Wb ch gu di gn pr spd py dn cs sit tak ser hid rnd ovr hst pia coins chairOf tired hosted owed paid keys kept last ah hl' nb tc pc md wa L' jd why liv rth sth sl st sg va ie len tp res ft s nm um un nx ts ht ps hp hm' mm wt hpr R' tm X htd ta im nk ak := by
  obtain ⟨C, G, D, n, hT, hK, rfl, ⟨rfl, rfl, rfl, hH, hN1, hN2⟩, hFp, hA, hL, rfl, hl1, hl2, rfl, hW, hTd, hY, hIm, hPl⟩ := id hI
  have hFp0 := hFp
  obtain ⟨⟨ρ, hρ, rfl⟩, hpop, hF⟩ := hFp0
  obtain ⟨r, hl', hm', a1, a2, a3, a4, a5, a6, a7, a8, b1, b2, b3, b4, b5, b6, L', R', p', z3, z1, z2⟩ := T_hosts hH hρ hF t1 t2 t3 t4 t5 t6 t7 t8 u1 u2 u3 u4 u5 u6 th hl hm L R p hL x
  exact ⟨r, hl', hm', a1, a2, a3, a4, a5, a6, a7, a8, b1, b2, b3, b4, b5, b6, L', R', p', z1, z2, ⟨C, G, D, n, hT, hK, rfl, ⟨rfl, rfl, rfl, hH, hN1, hN2⟩, hFp, hA, z3, rfl, hl1, hl2, rfl, hW, hTd, hY, hIm, hPl⟩⟩
theorem S_menu (hI : INV nt nw lf tz B wz Wb ch gu di gn pr spd py dn cs sit tak ser hid rnd ovr hst pia coins chairOf tired hosted owed paid keys kept last ah hl nb tc pc md wa L jd why liv rth sth sl st sg va ie len tp res ft s nm um un nx ts ht ps hp hm mm wt hpr R tm X htd ta im nk ak) (th : Int32) :
    ∃ (r md' : Int32), fX11_menu gu di py cs coins md = some (r, md') ∧ fX12_menu s th mm = some (r, 0, md') ∧ INV nt nw lf tz B wz Wb ch gu di gn pr spd py dn cs sit tak ser hid rnd ovr hst pia coins chairOf tired hosted owed paid keys kept last ah hl nb tc pc md' wa L jd why liv rth sth sl st sg va ie len tp res ft s nm um un nx ts ht ps hp hm md' wt hpr R tm X htd ta im nk ak := by
  obtain ⟨C, G, D, n, hT, hK, rfl, ⟨rfl, rfl, rfl, hH, hN1, hN2⟩, hFp, hA, hL, rfl, hl1, hl2, rfl, hW, hTd, hY, hIm, hPl⟩ := id hI
  have hFp0 := hFp
  obtain ⟨⟨ρ, hρ, rfl⟩, hpop, hF⟩ := hFp0
  obtain ⟨r, md', z1, z2⟩ := T_menu hH hρ hF md md th
  exact ⟨r, md', z1, z2, ⟨C, G, D, n, hT, hK, rfl, ⟨rfl, rfl, rfl, hH, hN1, hN2⟩, hFp, hA, hL, rfl, hl1, hl2, rfl, hW, hTd, hY, hIm, hPl⟩⟩
theorem S_gone (hI : INV nt nw lf tz B wz Wb ch gu di gn pr spd py dn cs sit tak ser hid rnd ovr hst pia coins chairOf tired hosted owed paid keys kept last ah hl nb tc pc md wa L jd why liv rth sth sl st sg va ie len tp res ft s nm um un nx ts ht ps hp hm mm wt hpr R tm X htd ta im nk ak) (t1 t2 t3 t4 t5 t6 t7 t8 : Int32) (u1 u2 u3 u4 u5 u6 : A1) (th sz p lim : Int32) (bf : A1) :
    ∃ (r : Int32) (t1' t2' t3' t4' t5' t6' t7' t8' : Int32) (u1' u2' u3' u4' u5' u6' : A1) (sz' p' lim' : Int32) (bf' : A1), fX11_gone nt B ch gu di pr spd py cs sit tak ser hid rnd ovr hst pia coins chairOf tired hosted owed paid tz t1 t2 t3 t4 t5 t6 t7 t8 u1 u2 u3 u4 u5 u6 = some (r, 0, t1', t2', t3', t4', t5', t6', t7', t8', u1', u2', u3', u4', u5', u6') ∧ fX12_gone tp th len sz p lim s bf = some (r, 0, 0, sz', p', lim', s, bf') ∧ INV nt nw lf 0 B wz Wb ch gu di gn pr spd py dn cs sit tak ser hid rnd ovr hst pia coins chairOf tired hosted owed paid keys kept last ah hl nb tc pc md wa L jd why liv rth sth sl st sg va ie 0 tp res ft s nm um un nx ts ht ps hp hm mm wt hpr R tm X htd ta im nk ak := by
  obtain ⟨C, G, D, n, hT, hK, rfl, ⟨rfl, rfl, rfl, hH, hN1, hN2⟩, hFp, hA, hL, rfl, hl1, hl2, rfl, hW, hTd, hY, hIm, hPl⟩ := id hI
  have hFp0 := hFp
  obtain ⟨⟨ρ, hρ, rfl⟩, hpop, hF⟩ := hFp0
  obtain ⟨r, a1, a2, a3, a4, a5, a6, a7, a8, b1, b2, b3, b4, b5, b6, sz', p', lim', bf', z1, z2⟩ := T_gone hH hρ hF t1 t2 t3 t4 t5 t6 t7 t8 u1 u2 u3 u4 u5 u6 hT th sz p lim bf
  exact ⟨r, a1, a2, a3, a4, a5, a6, a7, a8, b1, b2, b3, b4, b5, b6, sz', p', lim', bf', z1, z2, ⟨C, G, D, 0, ⟨hT.1, by omega, rfl, rfl, hT.2.2.2.2⟩, hK, rfl, ⟨rfl, rfl, rfl, hH, hN1, hN2⟩, hFp, hA, hL, rfl, hl1, hl2, rfl, hW, hTd, hY, hIm, hPl⟩⟩
theorem S_proud (hI : INV nt nw lf tz B wz Wb ch gu di gn pr spd py dn cs sit tak ser hid rnd ovr hst pia coins chairOf tired hosted owed paid keys kept last ah hl nb tc pc md wa L jd why liv rth sth sl st sg va ie len tp res ft s nm um un nx ts ht ps hp hm mm wt hpr R tm X htd ta im nk ak) (th sz p lim : Int32) :
    ∃ (r wa' wt' hp' sz' p' lim' : Int32), fX11_proud nt B tz wa = some (r, 0, wa') ∧ fX12_proud tp th len sz p lim wt hpr = some (r, 0, 0, sz', p', lim', wt', hp') ∧ INV nt nw lf 0 B wz Wb ch gu di gn pr spd py dn cs sit tak ser hid rnd ovr hst pia coins chairOf tired hosted owed paid keys kept last ah hl nb tc pc md wa' L jd why liv rth sth sl st sg va ie 0 tp res ft s nm um un nx ts ht ps hp hm mm wt' hp' R tm X htd ta im nk ak := by
  obtain ⟨C, G, D, n, hT, hK, rfl, ⟨rfl, rfl, rfl, hH, hN1, hN2⟩, hFp, hA, hL, rfl, hl1, hl2, rfl, hW, hTd, hY, hIm, hPl⟩ := id hI
  have hFp0 := hFp
  obtain ⟨⟨ρ, hρ, rfl⟩, hpop, hF⟩ := hFp0
  obtain ⟨r, wa', wt', hp', sz', p', lim', z3, z1, z2⟩ := T_proud hT th sz p lim hW
  exact ⟨r, wa', wt', hp', sz', p', lim', z1, z2, ⟨C, G, D, 0, ⟨hT.1, by omega, rfl, rfl, hT.2.2.2.2⟩, hK, rfl, ⟨rfl, rfl, rfl, hH, hN1, hN2⟩, hFp, hA, hL, rfl, hl1, hl2, rfl, z3, hTd, hY, hIm, hPl⟩⟩
theorem S_feed (hI : INV nt nw lf tz B wz Wb ch gu di gn pr spd py dn cs sit tak ser hid rnd ovr hst pia coins chairOf tired hosted owed paid keys kept last ah hl nb tc pc md wa L jd why liv rth sth sl st sg va ie len tp res ft s nm um un nx ts ht ps hp hm mm wt hpr R tm X htd ta im nk ak) (th a b c d e : Int32) :
    ∃ (r tz' len' : Int32) (B' tp' : A1), fX11_feed nt tz B a b c d e = some (r, tz', B') ∧ fX12_feed th len tp a b c d e = some (r, 0, len', tp') ∧ INV nt nw lf tz' B' wz Wb ch gu di gn pr spd py dn cs sit tak ser hid rnd ovr hst pia coins chairOf tired hosted owed paid keys kept last ah hl nb tc pc md wa L jd why liv rth sth sl st sg va ie len' tp' res ft s nm um un nx ts ht ps hp hm mm wt hpr R tm X htd ta im nk ak := by
  obtain ⟨C, G, D, n, hT, hK, rfl, ⟨rfl, rfl, rfl, hH, hN1, hN2⟩, hFp, hA, hL, rfl, hl1, hl2, rfl, hW, hTd, hY, hIm, hPl⟩ := id hI
  have hFp0 := hFp
  obtain ⟨⟨ρ, hρ, rfl⟩, hpop, hF⟩ := hFp0
  obtain ⟨r, tz', len', B', tp', n', z3, z1, z2⟩ := T_feed hT th a b c d e
  exact ⟨r, tz', len', B', tp', z1, z2, ⟨C, G, D, n', z3, hK, rfl, ⟨rfl, rfl, rfl, hH, hN1, hN2⟩, hFp, hA, hL, rfl, hl1, hl2, rfl, hW, hTd, hY, hIm, hPl⟩⟩
theorem S_end (hI : INV nt nw lf tz B wz Wb ch gu di gn pr spd py dn cs sit tak ser hid rnd ovr hst pia coins chairOf tired hosted owed paid keys kept last ah hl nb tc pc md wa L jd why liv rth sth sl st sg va ie len tp res ft s nm um un nx ts ht ps hp hm mm wt hpr R tm X htd ta im nk ak) (th x : Int32) :
    ∃ (r tz' len' : Int32), (r = 0 ∨ r = 1) ∧ fX11_end tz x = some (r, tz') ∧ fX12_end th len x = some (r, 0, len') ∧ INV nt nw lf tz' B wz Wb ch gu di gn pr spd py dn cs sit tak ser hid rnd ovr hst pia coins chairOf tired hosted owed paid keys kept last ah hl nb tc pc md wa L jd why liv rth sth sl st sg va ie len' tp res ft s nm um un nx ts ht ps hp hm mm wt hpr R tm X htd ta im nk ak := by
  obtain ⟨C, G, D, n, hT, hK, rfl, ⟨rfl, rfl, rfl, hH, hN1, hN2⟩, hFp, hA, hL, rfl, hl1, hl2, rfl, hW, hTd, hY, hIm, hPl⟩ := id hI
  have hFp0 := hFp
  obtain ⟨⟨ρ, hρ, rfl⟩, hpop, hF⟩ := hFp0
  obtain ⟨r, tz', len', n', z4, z3, z1, z2⟩ := T_end hT th x
  exact ⟨r, tz', len', z4, z1, z2, ⟨C, G, D, n', z3, hK, rfl, ⟨rfl, rfl, rfl, hH, hN1, hN2⟩, hFp, hA, hL, rfl, hl1, hl2, rfl, hW, hTd, hY, hIm, hPl⟩⟩
theorem S_plate (hI : INV nt nw lf tz B wz Wb ch gu di gn pr spd py dn cs sit tak ser hid rnd ovr hst pia coins chairOf tired hosted owed paid keys kept last ah hl nb tc pc md wa L jd why liv rth sth sl st sg va ie len tp res ft s nm um un nx ts ht ps hp hm mm wt hpr R tm X htd ta im nk ak) (th x : Int32) :
    ∃ (r wz' : Int32) (Wb' : A1) (tm' : Int32) (X' : A1), fX11_plate nw gu gn sit chairOf owed wz Wb x = some (r, wz', Wb') ∧ fX12_plate s nm th tm X x = some (r, 0, tm', X') ∧ INV nt nw lf tz B wz' Wb' ch gu di gn pr spd py dn cs sit tak ser hid rnd ovr hst pia coins chairOf tired hosted owed paid keys kept last ah hl nb tc pc md wa L jd why liv rth sth sl st sg va ie len tp res ft s nm um un nx ts ht ps hp hm mm wt hpr R tm' X' htd ta im nk ak := by
  obtain ⟨C, G, D, n, hT, hK, rfl, ⟨rfl, rfl, rfl, hH, hN1, hN2⟩, hFp, hA, hL, rfl, hl1, hl2, rfl, hW, hTd, hY, hIm, hPl⟩ := id hI
  have hFp0 := hFp
  obtain ⟨⟨ρ, hρ, rfl⟩, hpop, hF⟩ := hFp0
  obtain ⟨r, wz', Wb', tm', X', z1, z2, z3⟩ := T_plate hH hρ hF hN1 hPl th x
  exact ⟨r, wz', Wb', tm', X', z1, z2, ⟨C, G, D, n, hT, hK, rfl, ⟨rfl, rfl, rfl, hH, hN1, hN2⟩, hFp, hA, hL, rfl, hl1, hl2, rfl, hW, hTd, hY, hIm, z3⟩⟩
theorem S_sit (hI : INV nt nw lf tz B wz Wb ch gu di gn pr spd py dn cs sit tak ser hid rnd ovr hst pia coins chairOf tired hosted owed paid keys kept last ah hl nb tc pc md wa L jd why liv rth sth sl st sg va ie len tp res ft s nm um un nx ts ht ps hp hm mm wt hpr R tm X htd ta im nk ak) (th x : Int32) :
    ∃ (r sit' tak' ser' ovr' hst' pia' : Int32) (coins' tired' hosted' owed' paid' : A1) (kept' last' um' : Int32) (ah' : Nat → E9) (s' un' : A1), fX11_sit gu di py cs hid rnd chairOf sit tak ser ovr hst pia coins tired hosted owed paid kept last ah x = some (r, sit', tak', ser', ovr', hst', pia', coins', tired', hosted', owed', paid', kept', last', ah') ∧ fX12_sit th um s un x = some (r, 0, um', s', un') ∧ INV nt nw lf tz B wz Wb ch gu di gn pr spd py dn cs sit' tak' ser' hid rnd ovr' hst' pia' coins' chairOf tired' hosted' owed' paid' keys kept' last' ah' hl nb tc pc md wa L jd why liv rth sth sl st sg va ie len tp res ft s' nm um' un' nx ts ht ps hp hm mm wt hpr R tm X htd ta im nk ak := by
  obtain ⟨C, G, D, n, hT, hK, rfl, ⟨rfl, rfl, rfl, hH, hN1, hN2⟩, hFp, hA, hL, rfl, hl1, hl2, rfl, hW, hTd, hY, hIm, hPl⟩ := id hI
  have hFp0 := hFp
  obtain ⟨⟨ρ, hρ, rfl⟩, hpop, hF⟩ := hFp0
  obtain ⟨r, sit', tak', ser', ovr', hst', pia', coins', tired', hosted', owed', paid', kept', last', um', ah', s', un', z1, z2, z3, z4, zs⟩ := T_sit hH hFp hA th x
  exact ⟨r, sit', tak', ser', ovr', hst', pia', coins', tired', hosted', owed', paid', kept', last', um', ah', s', un', z1, z2, ⟨C, G, D, n, hT, hK, rfl, ⟨rfl, rfl, rfl, hH.congr (fun i hi => zs i (Or.inl hi)), hN1, hN2⟩, z3, z4, hL, rfl, hl1, hl2, rfl, hW, hTd, RSy_cs hY (fun i h1 h2 => zs i (Or.inr h1)), hIm, hPl⟩⟩
theorem S_rise (hI : INV nt nw lf tz B wz Wb ch gu di gn pr spd py dn cs sit tak ser hid rnd ovr hst pia coins chairOf tired hosted owed paid keys kept last ah hl nb tc pc md wa L jd why liv rth sth sl st sg va ie len tp res ft s nm um un nx ts ht ps hp hm mm wt hpr R tm X htd ta im nk ak) (th x : Int32) :
    ∃ (r sit' tak' : Int32) (kept' last' um' : Int32) (ah' : Nat → E9) (s' un' : A1), fX11_rise gu ser hid rnd ovr hst pia coins chairOf tired hosted owed paid sit tak kept last ah x = some (r, sit', tak', kept', last', ah') ∧ fX12_rise th um s un x = some (r, 0, um', s', un') ∧ INV nt nw lf tz B wz Wb ch gu di gn pr spd py dn cs sit' tak' ser hid rnd ovr hst pia coins chairOf tired hosted owed paid keys kept' last' ah' hl nb tc pc md wa L jd why liv rth sth sl st sg va ie len tp res ft s' nm um' un' nx ts ht ps hp hm mm wt hpr R tm X htd ta im nk ak := by
  obtain ⟨C, G, D, n, hT, hK, rfl, ⟨rfl, rfl, rfl, hH, hN1, hN2⟩, hFp, hA, hL, rfl, hl1, hl2, rfl, hW, hTd, hY, hIm, hPl⟩ := id hI
  have hFp0 := hFp
  obtain ⟨⟨ρ, hρ, rfl⟩, hpop, hF⟩ := hFp0
  obtain ⟨r, sit', tak', kept', last', um', ah', s', un', z1, z2, z3, z4, zs⟩ := T_rise hH hFp hA th x
  exact ⟨r, sit', tak', kept', last', um', ah', s', un', z1, z2, ⟨C, G, D, n, hT, hK, rfl, ⟨rfl, rfl, rfl, hH.congr (fun i hi => zs i (Or.inl hi)), hN1, hN2⟩, z3, z4, hL, rfl, hl1, hl2, rfl, hW, hTd, RSy_cs hY (fun i h1 h2 => zs i (Or.inr h1)), hIm, hPl⟩⟩
theorem S_serve (hI : INV nt nw lf tz B wz Wb ch gu di gn pr spd py dn cs sit tak ser hid rnd ovr hst pia coins chairOf tired hosted owed paid keys kept last ah hl nb tc pc md wa L jd why liv rth sth sl st sg va ie len tp res ft s nm um un nx ts ht ps hp hm mm wt hpr R tm X htd ta im nk ak) (th x : Int32) :
    ∃ (r ser' : Int32) (kept' last' um' : Int32) (ah' : Nat → E9) (s' un' : A1), fX11_serve di sit tak hid rnd ovr hst pia coins chairOf tired hosted owed paid ser kept last ah x = some (r, ser', kept', last', ah') ∧ fX12_serve th um s un x = some (r, 0, um', s', un') ∧ INV nt nw lf tz B wz Wb ch gu di gn pr spd py dn cs sit tak ser' hid rnd ovr hst pia coins chairOf tired hosted owed paid keys kept' last' ah' hl nb tc pc md wa L jd why liv rth sth sl st sg va ie len tp res ft s' nm um' un' nx ts ht ps hp hm mm wt hpr R tm X htd ta im nk ak := by
  obtain ⟨C, G, D, n, hT, hK, rfl, ⟨rfl, rfl, rfl, hH, hN1, hN2⟩, hFp, hA, hL, rfl, hl1, hl2, rfl, hW, hTd, hY, hIm, hPl⟩ := id hI
  have hFp0 := hFp
  obtain ⟨⟨ρ, hρ, rfl⟩, hpop, hF⟩ := hFp0
  obtain ⟨r, ser', kept', last', um', ah', s', un', z1, z2, z3, z4, zs⟩ := T_serve hH hFp hA th x
  exact ⟨r, ser', kept', last', um', ah', s', un', z1, z2, ⟨C, G, D, n, hT, hK, rfl, ⟨rfl, rfl, rfl, hH.congr (fun i hi => zs i (Or.inl hi)), hN1, hN2⟩, z3, z4, hL, rfl, hl1, hl2, rfl, hW, hTd, RSy_cs hY (fun i h1 h2 => zs i (Or.inr h1)), hIm, hPl⟩⟩
theorem S_hide (hI : INV nt nw lf tz B wz Wb ch gu di gn pr spd py dn cs sit tak ser hid rnd ovr hst pia coins chairOf tired hosted owed paid keys kept last ah hl nb tc pc md wa L jd why liv rth sth sl st sg va ie len tp res ft s nm um un nx ts ht ps hp hm mm wt hpr R tm X htd ta im nk ak) (th x : Int32) :
    ∃ (r hid' : Int32) (kept' last' um' : Int32) (ah' : Nat → E9) (s' un' : A1), fX11_hide ch gu sit tak ser rnd ovr hst pia coins chairOf tired hosted owed paid hid kept last ah x = some (r, hid', kept', last', ah') ∧ fX12_hide th um s un x = some (r, 0, um', s', un') ∧ INV nt nw lf tz B wz Wb ch gu di gn pr spd py dn cs sit tak ser hid' rnd ovr hst pia coins chairOf tired hosted owed paid keys kept' last' ah' hl nb tc pc md wa L jd why liv rth sth sl st sg va ie len tp res ft s' nm um' un' nx ts ht ps hp hm mm wt hpr R tm X htd ta im nk ak := by
  obtain ⟨C, G, D, n, hT, hK, rfl, ⟨rfl, rfl, rfl, hH, hN1, hN2⟩, hFp, hA, hL, rfl, hl1, hl2, rfl, hW, hTd, hY, hIm, hPl⟩ := id hI
  have hFp0 := hFp
  obtain ⟨⟨ρ, hρ, rfl⟩, hpop, hF⟩ := hFp0
  obtain ⟨r, hid', kept', last', um', ah', s', un', z1, z2, z3, z4, zs⟩ := T_hide hH hFp hA th x
  exact ⟨r, hid', kept', last', um', ah', s', un', z1, z2, ⟨C, G, D, n, hT, hK, rfl, ⟨rfl, rfl, rfl, hH.congr (fun i hi => zs i (Or.inl hi)), hN1, hN2⟩, z3, z4, hL, rfl, hl1, hl2, rfl, hW, hTd, RSy_cs hY (fun i h1 h2 => zs i (Or.inr h1)), hIm, hPl⟩⟩
theorem S_show (hI : INV nt nw lf tz B wz Wb ch gu di gn pr spd py dn cs sit tak ser hid rnd ovr hst pia coins chairOf tired hosted owed paid keys kept last ah hl nb tc pc md wa L jd why liv rth sth sl st sg va ie len tp res ft s nm um un nx ts ht ps hp hm mm wt hpr R tm X htd ta im nk ak) (th x : Int32) :
    ∃ (r hid' : Int32) (kept' last' um' : Int32) (ah' : Nat → E9) (s' un' : A1), fX11_show ch sit tak ser rnd ovr hst pia coins chairOf tired hosted owed paid hid kept last ah x = some (r, hid', kept', last', ah') ∧ fX12_show th um s un x = some (r, 0, um', s', un') ∧ INV nt nw lf tz B wz Wb ch gu di gn pr spd py dn cs sit tak ser hid' rnd ovr hst pia coins chairOf tired hosted owed paid keys kept' last' ah' hl nb tc pc md wa L jd why liv rth sth sl st sg va ie len tp res ft s' nm um' un' nx ts ht ps hp hm mm wt hpr R tm X htd ta im nk ak := by
  obtain ⟨C, G, D, n, hT, hK, rfl, ⟨rfl, rfl, rfl, hH, hN1, hN2⟩, hFp, hA, hL, rfl, hl1, hl2, rfl, hW, hTd, hY, hIm, hPl⟩ := id hI
  have hFp0 := hFp
  obtain ⟨⟨ρ, hρ, rfl⟩, hpop, hF⟩ := hFp0
  obtain ⟨r, hid', kept', last', um', ah', s', un', z1, z2, z3, z4, zs⟩ := T_show hH hFp hA th x
  exact ⟨r, hid', kept', last', um', ah', s', un', z1, z2, ⟨C, G, D, n, hT, hK, rfl, ⟨rfl, rfl, rfl, hH.congr (fun i hi => zs i (Or.inl hi)), hN1, hN2⟩, z3, z4, hL, rfl, hl1, hl2, rfl, hW, hTd, RSy_cs hY (fun i h1 h2 => zs i (Or.inr h1)), hIm, hPl⟩⟩
theorem S_rounds (hI : INV nt nw lf tz B wz Wb ch gu di gn pr spd py dn cs sit tak ser hid rnd ovr hst pia coins chairOf tired hosted owed paid keys kept last ah hl nb tc pc md wa L jd why liv rth sth sl st sg va ie len tp res ft s nm um un nx ts ht ps hp hm mm wt hpr R tm X htd ta im nk ak) (th x : Int32) :
    ∃ (r sit' tak' ser' rnd' ovr' hst' pia' : Int32) (coins' chairOf' tired' hosted' owed' paid' : A1) (kept' last' um' : Int32) (ah' : Nat → E9) (s' un' : A1), fX11_rounds ch gu di pr spd py cs hid sit tak ser rnd ovr hst pia coins chairOf tired hosted owed paid kept last ah x = some (r, sit', tak', ser', rnd', ovr', hst', pia', coins', chairOf', tired', hosted', owed', paid', kept', last', ah') ∧ fX12_rounds th um s un x = some (r, 0, um', s', un') ∧ INV nt nw lf tz B wz Wb ch gu di gn pr spd py dn cs sit' tak' ser' hid rnd' ovr' hst' pia' coins' chairOf' tired' hosted' owed' paid' keys kept' last' ah' hl nb tc pc md wa L jd why liv rth sth sl st sg va ie len tp res ft s' nm um' un' nx ts ht ps hp hm mm wt hpr R tm X htd ta im nk ak := by
  obtain ⟨C, G, D, n, hT, hK, rfl, ⟨rfl, rfl, rfl, hH, hN1, hN2⟩, hFp, hA, hL, rfl, hl1, hl2, rfl, hW, hTd, hY, hIm, hPl⟩ := id hI
  have hFp0 := hFp
  obtain ⟨⟨ρ, hρ, rfl⟩, hpop, hF⟩ := hFp0
  obtain ⟨r, sit', tak', ser', rnd', ovr', hst', pia', coins', chairOf', tired', hosted', owed', paid', kept', last', um', ah', s', un', z1, z2, z3, z4, zs⟩ := T_rounds hH hFp hA th x
  exact ⟨r, sit', tak', ser', rnd', ovr', hst', pia', coins', chairOf', tired', hosted', owed', paid', kept', last', um', ah', s', un', z1, z2, ⟨C, G, D, n, hT, hK, rfl, ⟨rfl, rfl, rfl, hH.congr (fun i hi => zs i (Or.inl hi)), hN1, hN2⟩, z3, z4, hL, rfl, hl1, hl2, rfl, hW, hTd, RSy_cs hY (fun i h1 h2 => zs i (Or.inr h1)), hIm, hPl⟩⟩
theorem S_drawn (hI : INV nt nw lf tz B wz Wb ch gu di gn pr spd py dn cs sit tak ser hid rnd ovr hst pia coins chairOf tired hosted owed paid keys kept last ah hl nb tc pc md wa L jd why liv rth sth sl st sg va ie len tp res ft s nm um un nx ts ht ps hp hm mm wt hpr R tm X htd ta im nk ak) (lot th sd x y : Int32) :
    ∃ (r sit' tak' ser' rnd' ovr' hst' pia' lot' : Int32) (coins' chairOf' tired' hosted' owed' paid' : A1) (kept' last' um' : Int32) (ah' : Nat → E9) (sd' : Int32) (s' un' : A1), fX11_drawn ch gu di pr spd py cs hid sit tak ser rnd ovr hst pia lot coins chairOf tired hosted owed paid kept last ah x y = some (r, sit', tak', ser', rnd', ovr', hst', pia', lot', coins', chairOf', tired', hosted', owed', paid', kept', last', ah') ∧ fX12_drawn th um sd s un x y = some (r, 0, um', sd', s', un') ∧ INV nt nw lf tz B wz Wb ch gu di gn pr spd py dn cs sit' tak' ser' hid rnd' ovr' hst' pia' coins' chairOf' tired' hosted' owed' paid' keys kept' last' ah' hl nb tc pc md wa L jd why liv rth sth sl st sg va ie len tp res ft s' nm um' un' nx ts ht ps hp hm mm wt hpr R tm X htd ta im nk ak := by
  obtain ⟨C, G, D, n, hT, hK, rfl, ⟨rfl, rfl, rfl, hH, hN1, hN2⟩, hFp, hA, hL, rfl, hl1, hl2, rfl, hW, hTd, hY, hIm, hPl⟩ := id hI
  have hFp0 := hFp
  obtain ⟨⟨ρ, hρ, rfl⟩, hpop, hF⟩ := hFp0
  obtain ⟨r, sit', tak', ser', rnd', ovr', hst', pia', lot', coins', chairOf', tired', hosted', owed', paid', kept', last', um', ah', sd', s', un', z1, z2, z3, z4, zs⟩ := T_drawn hH hFp hA lot th sd x y
  exact ⟨r, sit', tak', ser', rnd', ovr', hst', pia', lot', coins', chairOf', tired', hosted', owed', paid', kept', last', um', ah', sd', s', un', z1, z2, ⟨C, G, D, n, hT, hK, rfl, ⟨rfl, rfl, rfl, hH.congr (fun i hi => zs i (Or.inl hi)), hN1, hN2⟩, z3, z4, hL, rfl, hl1, hl2, rfl, hW, hTd, RSy_cs hY (fun i h1 h2 => zs i (Or.inr h1)), hIm, hPl⟩⟩
theorem S_undo (hI : INV nt nw lf tz B wz Wb ch gu di gn pr spd py dn cs sit tak ser hid rnd ovr hst pia coins chairOf tired hosted owed paid keys kept last ah hl nb tc pc md wa L jd why liv rth sth sl st sg va ie len tp res ft s nm um un nx ts ht ps hp hm mm wt hpr R tm X htd ta im nk ak) (th : Int32) :
    ∃ (r sit' tak' ser' hid' rnd' ovr' hst' pia' : Int32) (coins' chairOf' tired' hosted' owed' paid' : A1) (kept' last' um' : Int32) (s' : A1), fX11_undo ah sit tak ser hid rnd ovr hst pia coins chairOf tired hosted owed paid kept last = some (r, sit', tak', ser', hid', rnd', ovr', hst', pia', coins', chairOf', tired', hosted', owed', paid', kept', last') ∧ fX12_undo un th um s = some (r, 0, um', s') ∧ INV nt nw lf tz B wz Wb ch gu di gn pr spd py dn cs sit' tak' ser' hid' rnd' ovr' hst' pia' coins' chairOf' tired' hosted' owed' paid' keys kept' last' ah hl nb tc pc md wa L jd why liv rth sth sl st sg va ie len tp res ft s' nm um' un nx ts ht ps hp hm mm wt hpr R tm X htd ta im nk ak := by
  obtain ⟨C, G, D, n, hT, hK, rfl, ⟨rfl, rfl, rfl, hH, hN1, hN2⟩, hFp, hA, hL, rfl, hl1, hl2, rfl, hW, hTd, hY, hIm, hPl⟩ := id hI
  have hFp0 := hFp
  obtain ⟨⟨ρ, hρ, rfl⟩, hpop, hF⟩ := hFp0
  obtain ⟨r, sit', tak', ser', hid', rnd', ovr', hst', pia', coins', chairOf', tired', hosted', owed', paid', kept', last', um', s', z1, z2, z3, z4, zs⟩ := T_undo hH.1.2.2.1 hFp hA th
  exact ⟨r, sit', tak', ser', hid', rnd', ovr', hst', pia', coins', chairOf', tired', hosted', owed', paid', kept', last', um', s', z1, z2, ⟨C, G, D, n, hT, hK, rfl, ⟨rfl, rfl, rfl, hH.congr (fun i hi => zs i (Or.inl hi)), hN1, hN2⟩, z3, z4, hL, rfl, hl1, hl2, rfl, hW, hTd, RSy_cs hY (fun i h1 h2 => zs i (Or.inr h1)), hIm, hPl⟩⟩
end Calls9
