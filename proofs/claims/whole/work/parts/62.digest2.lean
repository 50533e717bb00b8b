section Digest2
variable {i : Nat} {p : zPG} {lt : zLT} {ls : zLS} {td : zTD} {im : zIM} {rd : zRD} {wr : zWR} {en : zEN} {dy : zDY} {hr : Nat → Int32} {ch tk wn : Int32} {m0 : Nat → Int32} {m1 m4 m5 m6 m7 : Int32} {m8 : Nat → Int32} {m9 : Int32} {m10 : Nat → Int32} {m16 m18 : Int32} {m19 : Nat → Int32} {m22 m23 m24 m25 m26 : Int32} {m27 m28 : Nat → Int32} {m11 m13 m14 : Int32} {m12 m15 : Bool} {m17 m20 : Nat → Int32}
theorem op_digest (h : Rel i p lt ls td im ch tk wn m0 m1 m4 m5 m6 m7 m8 m9 m10 m16 m18 m19 m22 m23 m24 m25 m26 m27 m28) : ∃ r rd' en' hr' o, f_X9_digest (p, lt, ls, td, im, rd, wr, en, dy, hr, ch, tk, wn) = some (r, (p, lt, ls, td, im, rd', wr, en', dy, hr', ch, tk, wn)) ∧ f_X10_digest m0 m1 m4 m5 m6 m7 m8 m9 m10 m11 m12 m13 m14 m15 m16 m17 m18 m19 m20 = some (r, o) := by
  have hwh := op_which (rd := rd) (wr := wr) (en := en) (dy := dy) (hr := hr) h
  obtain ⟨pn, n, sn, ln, tn, wc, tc, ⟨ep, e1, hpn⟩, hL, hK, hT, ⟨c1, c2, c3, c4⟩, ⟨ew, e16, hwc⟩, hI⟩ := h
  have hn := hL.2.2.2.2.1
  have hln := hK.2.2.1
  have e1p : p.2 = m1 := by rw [ep, e1]
  have e5 : td.2 = m18 := by rw [hT.1, hT.2.1]
  have ewm : wn = m16 := by rw [ew, e16]
  -- the last two loops
  have tail : ∀ (hh : Int64) (rd : zRD) (en : zEN) (hr : Nat → Int32) (o1 : Int32) (o2 : Bool) (o3 o4 : Int32) (o5 : Bool) (f17 f20 : Nat → Int32), ∃ r rd' o, lp_X9_digest_151 p (fun w _ => lp_X9_digest_186 (fun a _ s0 s1 s2 s3 s4 s5 s6 s7 s8 s9 s10 s11 s12 => some (a, (s0, s1, s2, s3, s4, s5, s6, s7, s8, s9, s10, s11, s12))) FU w 0 p lt ls td im rd wr en dy hr ch tk wn) FU hh 0 = some (r, (p, lt, ls, td, im, rd', wr, en, dy, hr, ch, tk, wn)) ∧ lp_X10_digest_127 m0 m1 (fun _ w => lp_X10_digest_154 m1 m4 m5 m6 m7 m8 m9 m10 m16 m18 (fun _ a1 a2 a3 a4 a5 a6 => some (a6, a1, a2, a3, a4, a5, f17, f20, a6)) FU 0 o1 o2 o3 o4 o5 w) FU 0 hh = some (r, o) := by
    intro hh rd en hr o1 o2 o3 o4 o5 f17 f20
    obtain ⟨h', q1, q2⟩ := D_page m0 pn hpn (fun w _ => lp_X9_digest_186 (fun a _ s0 s1 s2 s3 s4 s5 s6 s7 s8 s9 s10 s11 s12 => some (a, (s0, s1, s2, s3, s4, s5, s6, s7, s8, s9, s10, s11, s12))) FU w 0 p lt ls td im rd wr en dy hr ch tk wn) (fun _ w => lp_X10_digest_154 m1 m4 m5 m6 m7 m8 m9 m10 m16 m18 (fun _ a1 a2 a3 a4 a5 a6 => some (a6, a1, a2, a3, a4, a5, f17, f20, a6)) FU 0 o1 o2 o3 o4 o5 w) FU 0 hh (by omega) (FU_lt (by omega))
    obtain ⟨h2, rd', u1, u2, u3, u4, u5, r1, r2⟩ := D_cnt (im := im) (wr := wr) (dy := dy) hL hK e1p e5 c1 c2 ewm en hr (fun a _ s0 s1 s2 s3 s4 s5 s6 s7 s8 s9 s10 s11 s12 => some (a, (s0, s1, s2, s3, s4, s5, s6, s7, s8, s9, s10, s11, s12))) (fun _ a1 a2 a3 a4 a5 a6 => some (a6, a1, a2, a3, a4, a5, f17, f20, a6)) FU 0 h' rd o1 o2 o3 o4 o5 (by omega) (FU_lt (by omega))
    rw [nI_0] at q1 q2 r1 r2
    rw [← ep] at q1
    rw [← e1] at q2
    exact ⟨h2, rd', (u1, u2, u3, u4, u5, f17, f20, h2), q1.trans r1, q2.trans r2⟩
  -- behind the first two loops
  have mid : ∀ (hh : Int64) (rd : zRD) (o1 : Int32) (o2 : Bool) (o3 o4 : Int32) (o5 : Bool), ∃ r rd' en' hr' o, ((f_X9_which (p, lt, ls, td, im, rd, wr, en, dy, hr, ch, tk, wn)).bind fun u11 => (f_X9_noLetter (p, lt, ls, td, im, rd, wr, en, dy, hr, ch, tk, wn)).bind fun u12 => if (bI u12) = 0 then (f_X9_ask (p, lt, ls, td, im, rd, wr, en, dy, hr, ch, tk, wn)).bind fun u20 => (f_X9_rest u20.2 0 3 1).bind fun u21 => lp_X9_digest_151 u21.2.1 (fun w _ => lp_X9_digest_186 (fun a _ s0 s1 s2 s3 s4 s5 s6 s7 s8 s9 s10 s11 s12 => some (a, (s0, s1, s2, s3, s4, s5, s6, s7, s8, s9, s10, s11, s12))) FU w 0 u21.2.1 u21.2.2.1 u21.2.2.2.1 u21.2.2.2.2.1 u21.2.2.2.2.2.1 u21.2.2.2.2.2.2.1 u21.2.2.2.2.2.2.2.1 u21.2.2.2.2.2.2.2.2.1 u21.2.2.2.2.2.2.2.2.2.1 u21.2.2.2.2.2.2.2.2.2.2.1 u21.2.2.2.2.2.2.2.2.2.2.2.1 u21.2.2.2.2.2.2.2.2.2.2.2.2.1 u21.2.2.2.2.2.2.2.2.2.2.2.2.2) FU ((31 * ((31 * ((31 * hh) + (Int32.toInt64 u11))) + (Int32.toInt64 u20.1))) + (Int32.toInt64 u21.1)) 0 else lp_X9_digest_151 p (fun w _ => lp_X9_digest_186 (fun a _ s0 s1 s2 s3 s4 s5 s6 s7 s8 s9 s10 s11 s12 => some (a, (s0, s1, s2, s3, s4, s5, s6, s7, s8, s9, s10, s11, s12))) FU w 0 p lt ls td im rd wr en dy hr ch tk wn) FU ((31 * hh) + (Int32.toInt64 u11)) 0) = some (r, (p, lt, ls, td, im, rd', wr, en', dy, hr', ch, tk, wn)) ∧ ((f_X10_whichOf m18 m19).bind fun u13 => (f_X10_say hh (Int32.toInt64 u13)).bind fun u14 => if m4 ≤ 0 then lp_X10_digest_127 m0 m1 (fun _ w => lp_X10_digest_154 m1 m4 m5 m6 m7 m8 m9 m10 m16 m18 (fun _ a1 a2 a3 a4 a5 a6 => some (a6, a1, a2, a3, a4, a5, m17, m20, a6)) FU 0 o1 o2 o3 o4 o5 w) FU 0 u14 else (f_X10_askOf m4 m5 m8 o1 o2 o3 o4 o5 m18 m19 m20).bind fun u24 => (f_X10_say u14 (Int32.toInt64 u24.1)).bind fun u25 => (f_X10_restOf m4 m8 u24.2.1 u24.2.2.1 u24.2.2.2.1 u24.2.2.2.2.1 u24.2.2.2.2.2.1 m17 0 3 1).bind fun u26 => (f_X10_say u25 (Int32.toInt64 u26.1)).bind fun u27 => lp_X10_digest_127 m0 m1 (fun _ w => lp_X10_digest_154 m1 m4 m5 m6 m7 m8 m9 m10 m16 m18 (fun _ a1 a2 a3 a4 a5 a6 => some (a6, a1, a2, a3, a4, a5, u26.2.2.2.2.2.2, u24.2.2.2.2.2.2, a6)) FU 0 u26.2.1 u26.2.2.1 u26.2.2.2.1 u26.2.2.2.2.1 u26.2.2.2.2.2.1 w) FU 0 u27) = some (r, o) := by
    intro hh rd o1 o2 o3 o4 o5
    obtain ⟨k, k1, k2⟩ := B_which hT
    have kx : f_X9_which (p, lt, ls, td, im, rd, wr, en, dy, hr, ch, tk, wn) = some k := by
      simp [f_X9_which, k1]
    rw [kx, k2, Option.bind_some, Option.bind_some, M_say, Option.bind_some]
    have h0 : (m4 ≤ 0) ↔ n = 0 := by
      rw [hL.2.2.1, show (0 : Int32) = nI 0 from rfl, nI_leI (by omega) (by omega)]; omega
    have e0 : (lt.2.1 = 0) ↔ n = 0 := by rw [hL.1]; exact nI_z (by omega)
    by_cases hz : n = 0
    · have nl : f_X9_noLetter (p, lt, ls, td, im, rd, wr, en, dy, hr, ch, tk, wn) = some true := by
        simp [f_X9_noLetter, e0.mpr hz]
      rw [nl, Option.bind_some, if_neg (by decide), if_pos (h0.mpr hz)]
      obtain ⟨r, rd', o, t1, t2⟩ := tail (31 * hh + Int32.toInt64 k) rd en hr o1 o2 o3 o4 o5 m17 m20
      exact ⟨r, rd', en, hr, o, t1, t2⟩
    · have nl : f_X9_noLetter (p, lt, ls, td, im, rd, wr, en, dy, hr, ch, tk, wn) = some false := by
        simp [f_X9_noLetter, mt e0.mp hz]
      rw [nl, Option.bind_some, if_pos (by decide), if_neg (mt h0.mp hz)]
      obtain ⟨ra, rd1, hr1, oa, a1, a2⟩ := B_askOf (p := p) (ls := ls) (im := im) (rd := rd) (wr := wr) (en := en) (dy := dy) (hr := hr) (ch := ch) (tk := tk) (wn := wn) (m11 := o1) (m12 := o2) (m13 := o3) (m14 := o4) (m15 := o5) (m20 := m20) hL hT hz
      rw [a1, a2, Option.bind_some, Option.bind_some, M_say, Option.bind_some]
      obtain ⟨rr, en1, orr, b1, b2⟩ := B_restOk (p := p) (ls := ls) (td := td) (im := im) (rd := rd1) (wr := wr) (en := en) (dy := dy) (hr := hr1) (ch := ch) (tk := tk) (wn := wn) (m11 := oa.1) (m12 := oa.2.1) (m13 := oa.2.2.1) (m14 := oa.2.2.2.1) (m15 := oa.2.2.2.2.1) (m17 := m17) hL hz 0 3 1 (by omega) (by omega) (by omega) (by decide)
      rw [show f_X9_rest (p, lt, ls, td, im, rd1, wr, en, dy, hr1, ch, tk, wn) 0 3 1 = _ from b1, show f_X10_restOf m4 m8 oa.1 oa.2.1 oa.2.2.1 oa.2.2.2.1 oa.2.2.2.2.1 m17 0 3 1 = _ from b2, Option.bind_some, Option.bind_some, M_say, Option.bind_some]
      obtain ⟨r, rd', o, t1, t2⟩ := tail (31 * (31 * (31 * hh + Int32.toInt64 k) + Int32.toInt64 ra) + Int32.toInt64 rr) rd1 en1 hr1 orr.1 orr.2.1 orr.2.2.1 orr.2.2.2.1 orr.2.2.2.2.1 orr.2.2.2.2.2 oa.2.2.2.2.2
      exact ⟨r, rd', en1, hr1, o, t1, t2⟩
  rw [f_X9_digest, f_X10_digest]
  dsimp only
  obtain ⟨h1, rd1, u1, u2, u3, u4, u5, q1, q2⟩ := D_words (p := p) (ls := ls) (td := td) (im := im) (wr := wr) (dy := dy) (ch := ch) (tk := tk) (wn := wn) hL en hr _ _ FU 0 953 rd m11 m12 m13 m14 m15 (by omega) (FU_lt (by omega))
  rw [nI_0] at q1 q2
  obtain ⟨h2, rd2, v1, v2, v3, v4, v5, q3, q4⟩ := D_liss (p := p) (td := td) (im := im) (wr := wr) (dy := dy) (ch := ch) (tk := tk) (wn := wn) hL hK en hr _ _ FU 0 h1 rd1 u1 u2 u3 u4 u5 (by omega) (FU_lt (by omega))
  rw [nI_0] at q3 q4
  obtain ⟨r, rd', en', hr', o, z1, z2⟩ := mid h2 rd2 v1 v2 v3 v4 v5
  exact ⟨r, rd', en', hr', o, (q1.trans q3).trans z1, (q2.trans q4).trans z2⟩
end Digest2
