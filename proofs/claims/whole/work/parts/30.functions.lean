-- BandPress$Pages.isKept(I)Z (34,)
def Pages_isKept (a1 : Int) (s : gS) : gA := if w32 a1 < 0 then (some (0, s)) else (if w32 (s 34 2) ≤ w32 a1 then (some (0, s)) else (some (1, s)))
-- BandPress$Pages.line(II)J (34,)
def Pages_line (a1 a2 : Int) (s : gS) : gA := if w32 a2 < 0 then (some (0, s)) else (if w32 a2 < 48 then (g_bi (Pages_isKept a1 s) fun r3 s4 => (if w32 r3 = 0 then (if w32 a1 = (-1) then (if 0 ≤ w32 a2 ∧ w32 a2 < 48 then (some (s4 36 (w32 a2).toNat, s4)) else none) else (some (0, s4))) else (if 0 ≤ w32 ((a1 * 48) + a2) ∧ w32 ((a1 * 48) + a2) < 384 then (some (s4 35 (w32 ((a1 * 48) + a2)).toNat, s4)) else none))) else (some (0, s)))
-- BandPress$Packer.linesAlike(LBandPress$Pages;III)I (34,)
def Packer_linesAlike_30 (k30 : Int → Int → Int → Int → Int → gS → gA) (l1 l3 l4 l5 l7 : Int) (s : gS) : gA := if 8 ≤ w32 l7 then (some (l7 - l3, s)) else (g_bi (Pages_line l1 (l4 + l7) s) fun r8 s9 => (if w32 (l_cmp r8 l5) = 0 then (k30 l1 l3 l4 l5 (l7 + 1) s9) else (some (l7 - l3, s9))))
def Packer_linesAlike_30L : Nat → Int → Int → Int → Int → Int → gS → gA
  | 0 => fun _ _ _ _ _ _ => none
  | n + 1 => Packer_linesAlike_30 (Packer_linesAlike_30L n)
def Packer_linesAlike_25 (l1 l3 l4 t0 : Int) (s : gS) : gA := (Packer_linesAlike_30L gFu) l1 l3 l4 t0 l3 s
def Packer_linesAlike (a1 a2 a3 : Int) (s : gS) : gA := g_le (a2 * 8) fun v1 => (if w32 a3 = 0 then (Packer_linesAlike_25 a1 a3 v1 0 s) else (g_bi (Pages_line a1 ((v1 + a3) - 1) s) fun r4 s5 => (Packer_linesAlike_25 a1 a3 v1 r4 s5)))
-- BandPress$Packer.add(I)V (46,)
def Packer_add (a1 : Int) (s : gS) : gA := if 128 ≤ w32 (s 46 1) then (some (0, s)) else (if 0 ≤ w32 (s 46 1) ∧ w32 (s 46 1) < 128 then g_le (g_up s 47 (w32 (s 46 1)).toNat a1) fun s3 => g_le (g_up s3 46 1 ((s3 46 1) + 1)) fun s5 => (some (0, s5)) else none)
-- java/lang/Math.max(II)I ()
def Math_max (a0 a1 : Int) (s : gS) : gA := if w32 a0 < w32 a1 then (some (a1, s)) else (some (a0, s))
-- BandPress$Packer.octetsAlike(I)I (46,)
def Packer_octetsAlike_2 (k2 : Int → Int → gS → gA) (l1 l2 : Int) (s : gS) : gA := if 8 ≤ w32 l2 then (some (l2 - l1, s)) else (if 0 ≤ w32 l2 ∧ w32 l2 < 8 then if 0 ≤ w32 l1 ∧ w32 l1 < 8 then (if w32 (s 48 (w32 l2).toNat) = w32 (s 48 (w32 l1).toNat) then (k2 l1 (l2 + 1) s) else (some (l2 - l1, s))) else none else none)
def Packer_octetsAlike_2L : Nat → Int → Int → gS → gA
  | 0 => fun _ _ _ => none
  | n + 1 => Packer_octetsAlike_2 (Packer_octetsAlike_2L n)
def Packer_octetsAlike (a1 : Int) (s : gS) : gA := (Packer_octetsAlike_2L gFu) a1 a1 s
-- BandPress$Packer.octetsApart(I)I (46,)
def Packer_octetsApart_2 (k2 : Int → Int → gS → gA) (l1 l2 : Int) (s : gS) : gA := if 8 ≤ w32 l2 then (some (l2 - l1, s)) else (g_bi (Packer_octetsAlike l2 s) fun r2 s3 => (if 2 ≤ w32 r2 then (some (l2 - l1, s3)) else (k2 l1 (l2 + 1) s3)))
def Packer_octetsApart_2L : Nat → Int → Int → gS → gA
  | 0 => fun _ _ _ => none
  | n + 1 => Packer_octetsApart_2 (Packer_octetsApart_2L n)
def Packer_octetsApart (a1 : Int) (s : gS) : gA := (Packer_octetsApart_2L gFu) a1 a1 s
-- BandPress$Packer.packLine(J)V (46,)
def Packer_packLine_2 (k2 : Int → Int → gS → gA) (k34 : gS → gA) (l1 l3 : Int) (s : gS) : gA := if 8 ≤ w32 l3 then (k34 s) else (if 0 ≤ w32 l3 ∧ w32 l3 < 8 then g_le (g_up s 48 (w32 l3).toNat (i_and (l_ushr l1 (8 * (7 - l3))) 255)) fun s3 => (k2 l1 (l3 + 1) s3) else none)
def Packer_packLine_2L (k34 : gS → gA) : Nat → Int → Int → gS → gA
  | 0 => fun _ _ _ => none
  | n + 1 => Packer_packLine_2 (Packer_packLine_2L k34 n) k34
def Packer_packLine_97 (k97 : Int → Int → Int → gS → gA) (k123 : Int → Int → gS → gA) (l3 l4 l5 : Int) (s : gS) : gA := if w32 (l4 + l3) ≤ w32 l5 then (k123 l3 l4 s) else (if 0 ≤ w32 l5 ∧ w32 l5 < 8 then g_bi (Packer_add (s 48 (w32 l5).toNat) s) fun _ s19 => (k97 l3 l4 (l5 + 1) s19) else none)
def Packer_packLine_97L (k123 : Int → Int → gS → gA) : Nat → Int → Int → Int → gS → gA
  | 0 => fun _ _ _ _ => none
  | n + 1 => Packer_packLine_97 (Packer_packLine_97L k123 n) k123
def Packer_packLine_123 (k39 : Int → gS → gA) (l3 l4 : Int) (s : gS) : gA := g_bi (Math_max 1 l3 s) fun r21 s22 => g_le (l4 + r21) fun v24 => (k39 v24 s22)
def Packer_packLine_39 (k39 : Int → gS → gA) (l4 : Int) (s : gS) : gA := if 8 ≤ w32 l4 then (some (0, s)) else (g_bi (Packer_octetsAlike l4 s) fun r6 s7 => (if w32 r6 ≤ 1 then (g_bi (Packer_octetsApart l4 s7) fun r10 s11 => g_bi (Packer_add r10 s11) fun _ s14 => ((Packer_packLine_97L (Packer_packLine_123 k39) gFu) r10 l4 l4 s14)) else (g_bi (Packer_add (128 + r6) s7) fun _ s27 => if 0 ≤ w32 l4 ∧ w32 l4 < 8 then g_bi (Packer_add (s27 48 (w32 l4).toNat) s27) fun _ s31 => ((Packer_packLine_123 k39) r6 l4 s31) else none)))
def Packer_packLine_39L : Nat → Int → gS → gA
  | 0 => fun _ _ => none
  | n + 1 => Packer_packLine_39 (Packer_packLine_39L n)
def Packer_packLine_34 (s : gS) : gA := (Packer_packLine_39L gFu) 0 s
def Packer_packLine (a1 : Int) (s : gS) : gA := (Packer_packLine_2L Packer_packLine_34 gFu) a1 0 s
-- BandPress$Packer.pack(LBandPress$Pages;II)V (46, 34)
def Packer_pack_62 (k11 : Int → Int → Int → gS → gA) (l2 l3 l4 l5 : Int) (s : gS) : gA := g_bi (Math_max 1 l4 s) fun r14 s15 => g_le (l5 + r14) fun v17 => (k11 l2 l3 v17 s15)
def Packer_pack_11 (k11 : Int → Int → Int → gS → gA) (l2 l3 l5 : Int) (s : gS) : gA := if 8 ≤ w32 l5 then (some (0, s)) else (g_bi (Packer_linesAlike l2 l3 l5 s) fun r4 s5 => (if w32 r4 ≤ 0 then (g_bi (Pages_line l2 ((l3 * 8) + l5) s5) fun r8 s9 => g_bi (Packer_packLine r8 s9) fun _ s12 => ((Packer_pack_62 k11) l2 l3 r4 l5 s12)) else (g_bi (Packer_add (192 + r4) s5) fun _ s20 => ((Packer_pack_62 k11) l2 l3 r4 l5 s20))))
def Packer_pack_11L : Nat → Int → Int → Int → gS → gA
  | 0 => fun _ _ _ _ => none
  | n + 1 => Packer_pack_11 (Packer_pack_11L n)
def Packer_pack (a2 a3 : Int) (s : gS) : gA := g_le (g_up s 46 1 0) fun s1 => ((Packer_pack_11L gFu) a2 a3 0 s1)
-- BandPress.band(II)I (0,)
def B_band (a1 a2 : Int) (s : gS) : gA := g_bi (Pages_isKept a1 s) fun r1 s2 => (if w32 r1 = 0 then (some ((-1), s2)) else (if w32 a2 < 0 then (some ((-1), s2)) else (if w32 a2 < 6 then (g_bi (Packer_pack a1 a2 s2) fun _ s8 => (some (s8 46 1, s8))) else (some ((-1), s2)))))
-- BandPress.cover(Z)Z (0,)
def B_cover_16 (l1 t0 : Int) (s : gS) : gA := if w32 l1 = 0 ∨ w32 l1 = 1 then g_le (g_up s 40 8 l1) fun s3 => if w32 t0 = 0 ∨ w32 t0 = 1 then (some (t0, s3)) else none else none
def B_cover (a1 : Int) (s : gS) : gA := if w32 (s 40 8) = w32 a1 then (B_cover_16 a1 0 s) else (B_cover_16 a1 1 s)
-- BandPress$Settings.greyNow()I (21,)
def Settings_greyNow (s : gS) : gA := if 0 ≤ w32 (s 21 6) ∧ w32 (s 21 6) < 5 then (some (s 26 (w32 (s 21 6)).toNat, s)) else none
-- BandPress.job(I)I (0,)
def B_job (a1 : Int) (s : gS) : gA := if w32 a1 = 0 then (some (s 5 8, s)) else (if w32 a1 = 1 then (some (s 5 9, s)) else (if w32 a1 = 2 then (some (s 5 10, s)) else (if w32 a1 = 3 then (some (s 34 2, s)) else (if w32 a1 = 4 then (some (s 5 11, s)) else (if w32 a1 = 5 then (some (s 34 3, s)) else (if w32 a1 = 6 then (some (s 18 1, s)) else (if w32 a1 = 7 then (some (s 28 5, s)) else (if w32 a1 = 8 then (g_bi (Settings_greyNow s) fun r10 s11 => (some (r10, s11))) else (some ((-1), s))))))))))
-- BandPress.load(I)I (0,)
def B_load (a1 : Int) (s : gS) : gA := if w32 a1 < 1 then (some ((-1), s)) else (if 200 < w32 a1 then (some ((-1), s)) else (if w32 ((s 40 7) + a1) ≤ 500 then (g_le (g_up s 40 7 ((s 40 7) + a1)) fun s4 => (some (s4 40 7, s4))) else (some ((-1), s))))
-- BandPress.octet(III)I (0,)
def B_octet (a1 a2 a3 : Int) (s : gS) : gA := g_bi (Pages_isKept a1 s) fun r1 s2 => (if w32 r1 = 0 then (some ((-1), s2)) else (if w32 a2 < 0 then (some ((-1), s2)) else (if w32 a2 < 6 then (g_bi (Packer_pack a1 a2 s2) fun _ s8 => (if w32 a3 < 0 then (some ((-1), s8)) else (if w32 a3 < w32 (s8 46 1) then (if 0 ≤ w32 a3 ∧ w32 a3 < 128 then (some (s8 47 (w32 a3).toNat, s8)) else none) else (some ((-1), s8))))) else (some ((-1), s2)))))
-- BandPress$Order.sides()I (37,)
def Order_sides (s : gS) : gA := if w32 (s 37 5) = 0 then (some (1, s)) else (some (2, s))
-- BandPress$Order.firstPage(I)I (37,)
def Order_firstPage (a1 : Int) (s : gS) : gA := if w32 (s 37 7) = 0 then (some (0, s)) else (if ¬ w32 (s 37 7) = 0 then g_bi (Order_sides s) fun r3 s4 => (some ((i_rem a1 (s 37 7)) * r3, s4)) else none)
-- BandPress$Order.secondPage(I)I (37,)
def Order_secondPage (a1 : Int) (s : gS) : gA := g_bi (Order_firstPage a1 s) fun r1 s2 => g_le (r1 + 1) fun v4 => (if w32 (s2 37 5) = 0 then (some ((-1), s2)) else (if w32 (s2 37 6) ≤ w32 v4 then (some ((-1), s2)) else (some (v4, s2))))
-- BandPress$Order.copyOf(I)I (37,)
def Order_copyOf (a1 : Int) (s : gS) : gA := if w32 (s 37 7) = 0 then (some (0, s)) else (if ¬ w32 (s 37 7) = 0 then (some (i_div a1 (s 37 7), s)) else none)
-- BandPress.out(II)I (0,)
def B_out (a1 a2 : Int) (s : gS) : gA := if w32 a1 < 0 then (some ((-1), s)) else (if w32 a1 < w32 (s 37 2) then (if 0 ≤ w32 a1 ∧ w32 a1 < 32 then g_le (s 38 (w32 a1).toNat) fun v4 => (if w32 a2 = 0 then (some (v4, s)) else (if w32 a2 = 1 then (g_bi (Order_copyOf v4 s) fun r10 s11 => (some (r10, s11))) else (if w32 a2 = 2 then (g_bi (Order_firstPage v4 s) fun r13 s14 => (some (r13, s14))) else (if w32 a2 = 3 then (g_bi (Order_secondPage v4 s) fun r16 s17 => (some (r16, s17))) else (some ((-1), s)))))) else none) else (some ((-1), s)))
-- BandPress.pixel(III)Z (0,)
def B_pixel (a1 a2 a3 : Int) (s : gS) : gA := if w32 a2 < 0 then (some (0, s)) else (if 64 ≤ w32 a2 then (some (0, s)) else (if w32 a3 < 0 then (some (0, s)) else (if w32 a3 < 48 then (g_bi (Pages_line a1 a3 s) fun r5 s6 => (if w32 (l_cmp (l_and (l_ushr r5 (63 - a2)) 1) 0) = 0 then (some (0, s6)) else (some (1, s6)))) else (some (0, s)))))
-- BandPress$Order.left()I (37,)
def Order_left (s : gS) : gA := some ((s 37 3) - (s 37 2), s)
-- BandPress$Machine.inside()I (40,)
def Machine_inside_25 (k4 : Int → Int → gS → gA) (l2 t0 t1 : Int) (s : gS) : gA := g_le (t0 + t1) fun v4 => (k4 v4 (l2 + 1) s)
def Machine_inside_4 (k4 : Int → Int → gS → gA) (l1 l2 : Int) (s : gS) : gA := if 4 ≤ w32 l2 then (some (l1, s)) else (if 0 ≤ w32 l2 ∧ w32 l2 < 4 then (if w32 (s 41 (w32 l2).toNat) = (-1) then ((Machine_inside_25 k4) l2 l1 0 s) else ((Machine_inside_25 k4) l2 l1 1 s)) else none)
def Machine_inside_4L : Nat → Int → Int → gS → gA
  | 0 => fun _ _ _ => none
  | n + 1 => Machine_inside_4 (Machine_inside_4L n)
def Machine_inside (s : gS) : gA := (Machine_inside_4L gFu) 0 0 s
-- BandPress$Machine.state()I (40,)
def Machine_state_46 (s : gS) : gA := if 80 ≤ w32 (s 40 6) then (some (2, s)) else (some (1, s))
def Machine_state (s : gS) : gA := if w32 (s 40 8) = 0 then (if w32 (s 40 11) = 0 then (g_bi (Order_left s) fun r3 s4 => (if w32 r3 = 0 then (some (0, s4)) else (g_bi (Machine_inside s4) fun r7 s8 => (if w32 r7 = 0 then (if w32 (s8 40 7) = 0 then (some (4, s8)) else (Machine_state_46 s8)) else (Machine_state_46 s8))))) else (some (3, s))) else (some (5, s))
-- BandPress.press(I)I (0,)
def B_press (a1 : Int) (s : gS) : gA := if w32 a1 = 0 then (g_bi (Machine_state s) fun r8 s9 => (some (r8, s9))) else (if w32 a1 = 1 then (some (s 40 6, s)) else (if w32 a1 = 2 then (some (s 40 7, s)) else (if w32 a1 = 3 then (some (s 37 2, s)) else (if w32 a1 = 4 then (some (s 37 3, s)) else (if w32 a1 = 5 then (some (s 40 9, s)) else (if w32 a1 = 6 then (some (s 40 10, s)) else (some ((-1), s))))))))
-- BandPress$Job.isUnderWay()Z (5,)
def Job_isUnderWay (s : gS) : gA := if w32 (s 5 8) = 1 then (some (1, s)) else (some (0, s))
-- BandPress$Calls.isOver()Z (10,)
def Calls_isOver (s : gS) : gA := if 0 ≤ w32 (s 10 4) then (some (0, s)) else (some (1, s))
-- BandPress$Job.endIfOver()V (5,)
def Job_endIfOver (s : gS) : gA := g_bi (Calls_isOver s) fun r1 s2 => (if w32 r1 = 0 then (some (0, s2)) else (g_le (g_up s2 5 8 2) fun s5 => (some (0, s5))))
-- BandPress$Calls.place()I (10,)
def Calls_place (s : gS) : gA := if 0 ≤ w32 (s 10 4) then (if 0 ≤ w32 (s 10 4) ∧ w32 (s 10 4) < 21 then (some (s 11 (w32 (s 10 4)).toNat, s)) else none) else (some (0, s))
-- BandPress$Text.sign(I)I (6,)
def Text_sign (a1 : Int) (s : gS) : gA := if w32 a1 < 0 then (some (32, s)) else (if w32 a1 < w32 (s 6 3) then (if 0 ≤ w32 a1 ∧ w32 a1 < 300 then (some (s 7 (w32 a1).toNat, s)) else none) else (some (32, s)))
-- BandPress$Job.needs(I)I ()
def Job_needs (a0 : Int) (s : gS) : gA := if w32 a0 = 37 then (some (2, s)) else (if w32 a0 = 38 then (some (0, s)) else (if w32 a0 = 39 then (some (0, s)) else (if w32 a0 = 40 then (some (0, s)) else (if w32 a0 = 41 then (some (0, s)) else (if w32 a0 = 42 then (some (2, s)) else (if w32 a0 = 43 then (some (2, s)) else (if w32 a0 = 44 then (some (0, s)) else (if w32 a0 = 45 then (some (2, s)) else (if w32 a0 = 46 then (some (0, s)) else (if w32 a0 = 47 then (some (2, s)) else (if w32 a0 = 48 then (some (0, s)) else (if w32 a0 = 49 then (some (0, s)) else (if w32 a0 = 50 then (some (0, s)) else (if w32 a0 = 51 then (some (0, s)) else (if w32 a0 = 52 then (some (0, s)) else (if w32 a0 = 53 then (some (0, s)) else (if w32 a0 = 54 then (some (0, s)) else (if w32 a0 = 55 then (some (0, s)) else (if w32 a0 = 56 then (some (0, s)) else (if w32 a0 = 57 then (some (0, s)) else (if w32 a0 = 58 then (some (1, s)) else (if w32 a0 = 59 then (some (0, s)) else (if w32 a0 = 60 then (some (2, s)) else (if w32 a0 = 61 then (some (2, s)) else (if w32 a0 = 62 then (some (0, s)) else (if w32 a0 = 63 then (some (3, s)) else (if w32 a0 = 64 then (some (0, s)) else (if w32 a0 = 65 then (some (0, s)) else (if w32 a0 = 66 then (some (0, s)) else (if w32 a0 = 67 then (some (6, s)) else (if w32 a0 = 68 then (some (1, s)) else (if w32 a0 = 69 then (some (0, s)) else (if w32 a0 = 70 then (some (0, s)) else (if w32 a0 = 71 then (some (1, s)) else (if w32 a0 = 72 then (some (0, s)) else (if w32 a0 = 73 then (some (0, s)) else (if w32 a0 = 74 then (some (0, s)) else (if w32 a0 = 75 then (some (0, s)) else (if w32 a0 = 76 then (some (2, s)) else (if w32 a0 = 77 then (some (2, s)) else (if w32 a0 = 78 then (some (0, s)) else (if w32 a0 = 79 then (some (1, s)) else (if w32 a0 = 80 then (some (0, s)) else (if w32 a0 = 81 then (some (0, s)) else (if w32 a0 = 82 then (some (2, s)) else (if w32 a0 = 83 then (some (2, s)) else (if w32 a0 = 84 then (some (2, s)) else (if w32 a0 = 85 then (some (0, s)) else (if w32 a0 = 86 then (some (0, s)) else (if w32 a0 = 87 then (some (0, s)) else (if w32 a0 = 88 then (some (2, s)) else (if w32 a0 = 89 then (some (0, s)) else (if w32 a0 = 90 then (some (0, s)) else (if w32 a0 = 91 then (some (0, s)) else (if w32 a0 = 92 then (some (0, s)) else (if w32 a0 = 93 then (some (0, s)) else (if w32 a0 = 94 then (some (0, s)) else (if w32 a0 = 95 then (some (0, s)) else (if w32 a0 = 96 then (some (0, s)) else (if w32 a0 = 97 then (some (0, s)) else (if w32 a0 = 98 then (some (0, s)) else (if w32 a0 = 99 then (some (0, s)) else (if w32 a0 = 100 then (some (0, s)) else (if w32 a0 = 101 then (some (0, s)) else (if w32 a0 = 102 then (some (0, s)) else (if w32 a0 = 103 then (some (0, s)) else (if w32 a0 = 104 then (some (0, s)) else (if w32 a0 = 105 then (some (0, s)) else (if w32 a0 = 106 then (some (0, s)) else (if w32 a0 = 107 then (some (0, s)) else (if w32 a0 = 108 then (some (0, s)) else (if w32 a0 = 109 then (some (0, s)) else (if w32 a0 = 110 then (some (0, s)) else (if w32 a0 = 111 then (some (0, s)) else (if w32 a0 = 112 then (some (0, s)) else (if w32 a0 = 113 then (some (0, s)) else (if w32 a0 = 114 then (some (0, s)) else (if w32 a0 = 115 then (some (0, s)) else (if w32 a0 = 116 then (some (0, s)) else (if w32 a0 = 117 then (some (0, s)) else (if w32 a0 = 118 then (some (0, s)) else (if w32 a0 = 119 then (some (0, s)) else (if w32 a0 = 120 then (some (0, s)) else (if w32 a0 = 121 then (some (0, s)) else (if w32 a0 = 122 then (some (0, s)) else (if w32 a0 = 123 then (some (0, s)) else (if w32 a0 = 124 then (some (0, s)) else (if w32 a0 = 125 then (some (0, s)) else (if w32 a0 = 126 then (some (1, s)) else (some (0, s)))))))))))))))))))))))))))))))))))))))))))))))))))))))))))))))))))))))))))))))))))))))))))
-- BandPress$Values.peek(I)I (18,)
def Values_peek (a1 : Int) (s : gS) : gA := if w32 a1 < 0 then (some (0, s)) else (if w32 a1 < w32 (s 18 1) then (if 0 ≤ w32 (((s 18 1) - 1) - a1) ∧ w32 (((s 18 1) - 1) - a1) < 32 then (some (s 19 (w32 (((s 18 1) - 1) - a1)).toNat, s)) else none) else (some (0, s)))
-- BandPress$Values.isProcedure(I)Z (18,)
def Values_isProcedure (a1 : Int) (s : gS) : gA := g_bi (Values_peek a1 s) fun r1 s2 => (if w32 r1 < 2000000 then (some (0, s2)) else (some (1, s2)))
-- BandPress$Job.kindsFit(II)Z (5,)
def Job_kindsFit_71 (k45 : Int → Int → Int → gS → gA) (l2 l3 l4 t0 t1 : Int) (s : gS) : gA := if w32 t0 = w32 t1 then (k45 l2 l3 (l4 + 1) s) else (some (0, s))
def Job_kindsFit_45 (k45 : Int → Int → Int → gS → gA) (l2 l3 l4 : Int) (s : gS) : gA := if w32 l2 ≤ w32 l4 then (some (1, s)) else (g_bi (Values_isProcedure l4 s) fun r7 s8 => (if w32 l3 ≤ w32 l4 then ((Job_kindsFit_71 k45) l2 l3 l4 r7 0 s8) else ((Job_kindsFit_71 k45) l2 l3 l4 r7 1 s8)))
def Job_kindsFit_45L : Nat → Int → Int → Int → gS → gA
  | 0 => fun _ _ _ _ => none
  | n + 1 => Job_kindsFit_45 (Job_kindsFit_45L n)
def Job_kindsFit_41 (l2 t0 : Int) (s : gS) : gA := (Job_kindsFit_45L gFu) l2 t0 0 s
def Job_kindsFit (a1 a2 : Int) (s : gS) : gA := if w32 a1 = 68 then (some (1, s)) else (if w32 a1 = 88 then (some (1, s)) else (if w32 a1 = 79 then (some (1, s)) else (if w32 a1 = 63 then (Job_kindsFit_41 a2 2 s) else (if w32 a1 = 82 then (Job_kindsFit_41 a2 1 s) else (Job_kindsFit_41 a2 0 s)))))
-- java/lang/Math.floorDiv(JJ)J ()
def Math_floorDiv (a0 a2 : Int) (s : gS) : gA := if ¬ w64 a2 = 0 then g_le (l_div a0 a2) fun v2 => (if 0 ≤ w32 (l_cmp (l_xor a0 a2) 0) then (some (v2, s)) else (if w32 (l_cmp (v2 * a2) a0) = 0 then (some (v2, s)) else (some (v2 - 1, s)))) else none
-- BandPress$Settings.stretchedX(I)J (21,)
def Settings_stretchedX (a1 : Int) (s : gS) : gA := if 0 ≤ w32 (s 21 6) ∧ w32 (s 21 6) < 5 then g_bi (Math_floorDiv ((w32 (s 22 (w32 (s 21 6)).toNat)) * (w32 a1)) 16 s) fun r2 s3 => (some (r2, s3)) else none
-- java/lang/Math.abs(J)J ()
def Math_abs (a0 : Int) (s : gS) : gA := if 0 ≤ w32 (l_cmp a0 0) then (some (a0, s)) else (some (-a0, s))
-- BandPress$Settings.stretchedY(I)J (21,)
def Settings_stretchedY (a1 : Int) (s : gS) : gA := if 0 ≤ w32 (s 21 6) ∧ w32 (s 21 6) < 5 then g_bi (Math_floorDiv ((w32 (s 23 (w32 (s 21 6)).toNat)) * (w32 a1)) 16 s) fun r2 s3 => (some (r2, s3)) else none
-- BandPress$Settings.placedX(I)J (21,)
def Settings_placedX (a1 : Int) (s : gS) : gA := if 0 ≤ w32 (s 21 6) ∧ w32 (s 21 6) < 5 then g_bi (Settings_stretchedX a1 s) fun r2 s3 => (some ((w32 (s 24 (w32 (s 21 6)).toNat)) + r2, s3)) else none
-- BandPress$Settings.placedY(I)J (21,)
def Settings_placedY (a1 : Int) (s : gS) : gA := if 0 ≤ w32 (s 21 6) ∧ w32 (s 21 6) < 5 then g_bi (Settings_stretchedY a1 s) fun r2 s3 => (some ((w32 (s 25 (w32 (s 21 6)).toNat)) + r2, s3)) else none
-- BandPress$Job.isFarOff(I)Z (5,)
def Job_isFarOff (a1 : Int) (s : gS) : gA := g_bi (Values_peek a1 s) fun r1 s2 => g_bi (Settings_placedX r1 s2) fun r4 s5 => g_bi (Math_abs r4 s5) fun r7 s8 => (if 0 < w32 (l_cmp r7 100000) then (some (1, s8)) else (g_bi (Values_peek (a1 - 1) s8) fun r11 s12 => g_bi (Settings_placedY r11 s12) fun r14 s15 => g_bi (Math_abs r14 s15) fun r17 s18 => (if w32 (l_cmp r17 100000) ≤ 0 then (some (0, s18)) else (some (1, s18)))))
-- BandPress$Job.resultOf(I)J (5,)
def Job_resultOf (a1 : Int) (s : gS) : gA := g_bi (Values_peek 1 s) fun r1 s2 => g_le (w32 r1) fun v4 => g_bi (Values_peek 0 s2) fun r6 s7 => g_le (w32 r6) fun v9 => (if w32 a1 = 37 then (if w32 (l_cmp v9 0) = 0 then (some (0, s7)) else (if ¬ w64 v9 = 0 then (some (l_rem v4 v9, s7)) else none)) else (if w32 a1 = 38 then (some (0, s7)) else (if w32 a1 = 39 then (some (0, s7)) else (if w32 a1 = 40 then (some (0, s7)) else (if w32 a1 = 41 then (some (0, s7)) else (if w32 a1 = 42 then (some (v4 * v9, s7)) else (if w32 a1 = 43 then (some (v4 + v9, s7)) else (if w32 a1 = 44 then (some (0, s7)) else (if w32 a1 = 45 then (some (v4 - v9, s7)) else (if w32 a1 = 46 then (some (0, s7)) else (if w32 a1 = 47 then (if w32 (l_cmp v9 0) = 0 then (some (0, s7)) else (if ¬ w64 v9 = 0 then (some (l_div v4 v9, s7)) else none)) else (if w32 a1 = 48 then (some (0, s7)) else (if w32 a1 = 49 then (some (0, s7)) else (if w32 a1 = 50 then (some (0, s7)) else (if w32 a1 = 51 then (some (0, s7)) else (if w32 a1 = 52 then (some (0, s7)) else (if w32 a1 = 53 then (some (0, s7)) else (if w32 a1 = 54 then (some (0, s7)) else (if w32 a1 = 55 then (some (0, s7)) else (if w32 a1 = 56 then (some (0, s7)) else (if w32 a1 = 57 then (some (0, s7)) else (if w32 a1 = 58 then (some (0, s7)) else (if w32 a1 = 59 then (some (0, s7)) else (if w32 a1 = 60 then (if 0 ≤ w32 (l_cmp v4 v9) then (some (0, s7)) else (some (1, s7))) else (if w32 a1 = 61 then (if w32 (l_cmp v4 v9) = 0 then (some (1, s7)) else (some (0, s7))) else (some (0, s7)))))))))))))))))))))))))))
-- BandPress$Job.goesBeyond(I)Z (5,)
def Job_goesBeyond_84 (l1 : Int) (s : gS) : gA := g_bi (Job_resultOf l1 s) fun r10 s11 => g_bi (Math_abs r10 s11) fun r13 s14 => (if w32 (l_cmp r13 1000000) ≤ 0 then (some (0, s14)) else (some (1, s14)))
def Job_goesBeyond_105 (s : gS) : gA := g_bi (Job_isFarOff 1 s) fun r37 s38 => if w32 r37 = 0 ∨ w32 r37 = 1 then (some (r37, s38)) else none
def Job_goesBeyond (a1 : Int) (s : gS) : gA := if w32 a1 = 42 then (Job_goesBeyond_84 a1 s) else (if w32 a1 = 43 then (Job_goesBeyond_84 a1 s) else (if w32 a1 = 45 then (Job_goesBeyond_84 a1 s) else (if w32 a1 = 67 then (g_bi (Job_isFarOff 5 s) fun r17 s18 => (if w32 r17 = 0 then (g_bi (Job_isFarOff 3 s18) fun r21 s22 => (if w32 r21 = 0 then (g_bi (Job_isFarOff 1 s22) fun r25 s26 => (if w32 r25 = 0 then (some (0, s26)) else (some (1, s26)))) else (some (1, s22)))) else (some (1, s18)))) else (if w32 a1 = 71 then (g_bi (Values_peek 0 s) fun r29 s30 => (if w32 r29 < 0 then (some (1, s30)) else (g_bi (Values_peek 0 s30) fun r33 s34 => (if w32 r33 ≤ 16 then (some (0, s34)) else (some (1, s34)))))) else (if w32 a1 = 76 then (Job_goesBeyond_105 s) else (if w32 a1 = 77 then (Job_goesBeyond_105 s) else (if w32 a1 = 83 then (g_bi (Values_peek 1 s) fun r41 s42 => g_bi (Settings_stretchedX r41 s42) fun r44 s45 => g_bi (Math_abs r44 s45) fun r47 s48 => (if 0 < w32 (l_cmp r47 4096) then (some (1, s48)) else (g_bi (Values_peek 0 s48) fun r51 s52 => g_bi (Settings_stretchedY r51 s52) fun r54 s55 => g_bi (Math_abs r54 s55) fun r57 s58 => (if w32 (l_cmp r57 4096) ≤ 0 then (some (0, s58)) else (some (1, s58)))))) else (if w32 a1 = 84 then (Job_goesBeyond_105 s) else (some (0, s))))))))))
-- BandPress.isDigit(I)Z ()
def B_isDigit (a0 : Int) (s : gS) : gA := if w32 a0 < 48 then (some (0, s)) else (if 57 < w32 a0 then (some (0, s)) else (some (1, s)))
-- BandPress.isLetter(I)Z ()
def B_isLetter (a0 : Int) (s : gS) : gA := if w32 a0 < 97 then (some (0, s)) else (if 122 < w32 a0 then (some (0, s)) else (some (1, s)))
-- BandPress$Values.isFull()Z (18,)
def Values_isFull (s : gS) : gA := if w32 (s 18 1) < 32 then (some (0, s)) else (some (1, s))
-- BandPress$Calls.isFull()Z (10,)
def Calls_isFull (s : gS) : gA := if w32 (s 10 4) < 20 then (some (0, s)) else (some (1, s))
-- BandPress$Job.lacksRoom(I)Z (5,)
def Job_lacksRoom_26 (s : gS) : gA := g_bi (Values_isFull s) fun r5 s6 => if w32 r5 = 0 ∨ w32 r5 = 1 then (some (r5, s6)) else none
def Job_lacksRoom_63 (t0 : Int) (s : gS) : gA := if w32 t0 = 0 then (some (0, s)) else (g_bi (Calls_isFull s) fun r17 s18 => (if w32 r17 = 0 then (some (0, s18)) else (some (1, s18))))
def Job_lacksRoom_58 (s : gS) : gA := Job_lacksRoom_63 1 s
def Job_lacksRoom_62 (s : gS) : gA := Job_lacksRoom_63 0 s
def Job_lacksRoom (a1 : Int) (s : gS) : gA := g_bi (B_isDigit a1 s) fun r1 s2 => (if w32 r1 = 0 then (g_bi (B_isLetter a1 s2) fun r9 s10 => (if w32 r9 = 0 then (if w32 a1 = 123 then (Job_lacksRoom_26 s10) else (if w32 a1 = 68 then (Job_lacksRoom_26 s10) else (if w32 a1 = 63 then (Job_lacksRoom_58 s10) else (if w32 a1 = 82 then (g_bi (Values_peek 1 s10) fun r22 s23 => (if w32 r22 < 1 then (Job_lacksRoom_62 s23) else (Job_lacksRoom_58 s23))) else (Job_lacksRoom_62 s10))))) else (Job_lacksRoom_26 s10))) else (Job_lacksRoom_26 s2))
-- BandPress$Path.placesFor(I)I (28,)
def Path_placesFor (a1 : Int) (s : gS) : gA := if w32 (s 28 7) = 0 then (some (a1, s)) else (some (a1 + 1, s))
-- BandPress$Job.placesFor(I)I (5,)
def Job_placesFor (a1 : Int) (s : gS) : gA := if w32 a1 = 67 then (g_bi (Path_placesFor 8 s) fun r4 s5 => (some (r4, s5))) else (if w32 a1 = 76 then (g_bi (Path_placesFor 1 s) fun r7 s8 => (some (r7, s8))) else (if w32 a1 = 77 then (some (1, s)) else (some (0, s))))
-- java/lang/Math.min(JJ)J ()
def Math_min (a0 a2 : Int) (s : gS) : gA := if 0 < w32 (l_cmp a0 a2) then (some (a2, s)) else (some (a0, s))
-- java/lang/Math.max(JJ)J ()
def Math_max1 (a0 a2 : Int) (s : gS) : gA := if w32 (l_cmp a0 a2) < 0 then (some (a2, s)) else (some (a0, s))
-- BandPress$Filler.firstPixel(LBandPress$Path;III)I (28,)
def Filler_firstPixel (a1 a2 a3 : Int) (s : gS) : gA := if 0 ≤ w32 a2 ∧ w32 a2 < 200 then if 0 ≤ w32 a1 ∧ w32 a1 < 200 then g_le ((w32 (s 30 (w32 a2).toNat)) - (w32 (s 30 (w32 a1).toNat))) fun v3 => (if 0 < w32 (l_cmp v3 0) then (if 0 ≤ w32 a2 ∧ w32 a2 < 200 then if 0 ≤ w32 a1 ∧ w32 a1 < 200 then g_le ((w32 (s 29 (w32 a2).toNat)) - (w32 (s 29 (w32 a1).toNat))) fun v8 => if 0 ≤ w32 a1 ∧ w32 a1 < 200 then if 0 ≤ w32 a1 ∧ w32 a1 < 200 then g_le (((w32 (s 29 (w32 a1).toNat)) * v3) + ((w32 (a3 - (s 30 (w32 a1).toNat))) * v8)) fun v12 => g_bi (Math_floorDiv ((2 * v3) - v12) (4 * v3) s) fun r14 s15 => g_le (-r14) fun v17 => g_bi (Math_min v17 64 s15) fun r19 s20 => g_bi (Math_max1 0 r19 s20) fun r22 s23 => (some (r22, s23)) else none else none else none else none) else (some (64, s))) else none else none
-- BandPress$Filler.meetEdges(LBandPress$Path;I)Z (15, 28)
def Filler_meetEdges_207 (k8 : Int → Int → Int → Int → gS → gA) (l2 l3 l4 l5 : Int) (s : gS) : gA := k8 l2 l3 l4 (l5 + 1) s
def Filler_meetEdges_203 (k8 : Int → Int → Int → Int → gS → gA) (l2 l4 l5 t1 t2 t3 : Int) (s : gS) : gA := if 0 ≤ w32 t1 ∧ w32 t1 < 64 then g_le (g_up s 17 (w32 t1).toNat (t2 + t3)) fun s20 => ((Filler_meetEdges_207 k8) l2 1 l4 l5 s20) else none
def Filler_meetEdges_176 (k8 : Int → Int → Int → Int → gS → gA) (l2 l3 l4 l5 l8 t0 : Int) (s : gS) : gA := if 64 ≤ w32 t0 then ((Filler_meetEdges_207 k8) l2 l3 l4 l5 s) else (if 0 ≤ w32 t0 ∧ w32 t0 < 64 then (if w32 l8 = 0 then ((Filler_meetEdges_203 k8) l2 l4 l5 t0 (s 17 (w32 t0).toNat) (-1) s) else ((Filler_meetEdges_203 k8) l2 l4 l5 t0 (s 17 (w32 t0).toNat) 1 s)) else none)
def Filler_meetEdges_150 (k8 : Int → Int → Int → Int → gS → gA) (l2 l3 l4 l5 l7 l8 : Int) (s : gS) : gA := if w32 l8 = 0 then (g_bi (Filler_firstPixel l7 l5 l2 s) fun r13 s14 => ((Filler_meetEdges_176 k8) l2 l3 l4 l5 l8 r13 s14)) else (g_bi (Filler_firstPixel l5 l7 l2 s) fun r22 s23 => ((Filler_meetEdges_176 k8) l2 l3 l4 l5 l8 r22 s23))
def Filler_meetEdges_138 (k8 : Int → Int → Int → Int → gS → gA) (l2 l3 l4 l5 l7 l8 t0 : Int) (s : gS) : gA := if w32 l8 = 0 then (if w32 t0 = 0 then ((Filler_meetEdges_207 k8) l2 l3 l4 l5 s) else ((Filler_meetEdges_150 k8) l2 l3 l4 l5 l7 l8 s)) else ((Filler_meetEdges_150 k8) l2 l3 l4 l5 l7 l8 s)
def Filler_meetEdges_137 (k8 : Int → Int → Int → Int → gS → gA) (l2 l3 l4 l5 l7 l8 : Int) (s : gS) : gA := (Filler_meetEdges_138 k8) l2 l3 l4 l5 l7 l8 0 s
def Filler_meetEdges_109 (k8 : Int → Int → Int → Int → gS → gA) (l2 l3 l4 l5 l7 t0 : Int) (s : gS) : gA := if 0 ≤ w32 l7 ∧ w32 l7 < 200 then (if w32 l2 < w32 (s 30 (w32 l7).toNat) then ((Filler_meetEdges_137 k8) l2 l3 l4 l5 l7 t0 s) else (if 0 ≤ w32 l5 ∧ w32 l5 < 200 then (if w32 (s 30 (w32 l5).toNat) ≤ w32 l2 then ((Filler_meetEdges_137 k8) l2 l3 l4 l5 l7 t0 s) else ((Filler_meetEdges_138 k8) l2 l3 l4 l5 l7 t0 1 s)) else none)) else none
def Filler_meetEdges_108 (k8 : Int → Int → Int → Int → gS → gA) (l2 l3 l4 l5 l7 : Int) (s : gS) : gA := (Filler_meetEdges_109 k8) l2 l3 l4 l5 l7 0 s
def Filler_meetEdges_80 (k8 : Int → Int → Int → Int → gS → gA) (l2 l3 l4 l5 t0 : Int) (s : gS) : gA := if 0 ≤ w32 l5 ∧ w32 l5 < 200 then (if w32 l2 < w32 (s 30 (w32 l5).toNat) then ((Filler_meetEdges_108 k8) l2 l3 l4 l5 t0 s) else (if 0 ≤ w32 t0 ∧ w32 t0 < 200 then (if w32 (s 30 (w32 t0).toNat) ≤ w32 l2 then ((Filler_meetEdges_108 k8) l2 l3 l4 l5 t0 s) else ((Filler_meetEdges_109 k8) l2 l3 l4 l5 t0 1 s)) else none)) else none
def Filler_meetEdges_64 (k8 : Int → Int → Int → Int → gS → gA) (l2 l3 l4 l5 t0 : Int) (s : gS) : gA := if w32 t0 = 0 then ((Filler_meetEdges_80 k8) l2 l3 l4 l5 (l5 + 1) s) else ((Filler_meetEdges_80 k8) l2 l3 l4 l5 l4 s)
def Filler_meetEdges_59 (k8 : Int → Int → Int → Int → gS → gA) (l2 l3 l4 l5 : Int) (s : gS) : gA := (Filler_meetEdges_64 k8) l2 l3 l4 l5 1 s
def Filler_meetEdges_34 (k8 : Int → Int → Int → Int → gS → gA) (l2 l3 l5 t0 : Int) (s : gS) : gA := if w32 (l5 + 1) = w32 (s 28 5) then ((Filler_meetEdges_59 k8) l2 l3 t0 l5 s) else (if 0 ≤ w32 (l5 + 1) ∧ w32 (l5 + 1) < 200 then (if w32 (s 31 (w32 (l5 + 1)).toNat) = 0 then ((Filler_meetEdges_64 k8) l2 l3 t0 l5 0 s) else ((Filler_meetEdges_59 k8) l2 l3 t0 l5 s)) else none)
def Filler_meetEdges_8 (k8 : Int → Int → Int → Int → gS → gA) (l2 l3 l4 l5 : Int) (s : gS) : gA := if w32 (s 28 5) ≤ w32 l5 then (if w32 l3 = 0 ∨ w32 l3 = 1 then (some (l3, s)) else none) else (if 0 ≤ w32 l5 ∧ w32 l5 < 200 then (if w32 (s 31 (w32 l5).toNat) = 0 then ((Filler_meetEdges_34 k8) l2 l3 l5 l4 s) else ((Filler_meetEdges_34 k8) l2 l3 l5 l5 s)) else none)
def Filler_meetEdges_8L : Nat → Int → Int → Int → Int → gS → gA
  | 0 => fun _ _ _ _ _ => none
  | n + 1 => Filler_meetEdges_8 (Filler_meetEdges_8L n)
def Filler_meetEdges (a2 : Int) (s : gS) : gA := (Filler_meetEdges_8L gFu) a2 0 0 0 s
-- BandPress$Filler.sweep(Z)J (15,)
def Filler_sweep_79 (k8 : Int → Int → Int → Int → gS → gA) (l1 l4 l5 t0 t1 : Int) (s : gS) : gA := g_le (l_or t0 t1) fun v11 => (k8 l1 v11 l4 (l5 + 1) s)
def Filler_sweep_64 (k8 : Int → Int → Int → Int → gS → gA) (l1 l2 l4 l5 t0 : Int) (s : gS) : gA := if w32 t0 = 0 then ((Filler_sweep_79 k8) l1 l4 l5 (l_shl l2 1) 0 s) else ((Filler_sweep_79 k8) l1 l4 l5 (l_shl l2 1) 1 s)
def Filler_sweep_8 (k8 : Int → Int → Int → Int → gS → gA) (l1 l2 l4 l5 : Int) (s : gS) : gA := if 64 ≤ w32 l5 then (some (l2, s)) else (if 0 ≤ w32 l5 ∧ w32 l5 < 64 then g_le (l4 + (s 17 (w32 l5).toNat)) fun v3 => if 0 ≤ w32 l5 ∧ w32 l5 < 64 then g_le (g_up s 17 (w32 l5).toNat 0) fun s6 => (if w32 l1 = 0 then (if w32 v3 = 0 then ((Filler_sweep_64 k8) l1 l2 v3 l5 0 s6) else ((Filler_sweep_64 k8) l1 l2 v3 l5 1 s6)) else (if w32 (i_and v3 1) = 0 then ((Filler_sweep_64 k8) l1 l2 v3 l5 0 s6) else ((Filler_sweep_64 k8) l1 l2 v3 l5 1 s6))) else none else none)
def Filler_sweep_8L : Nat → Int → Int → Int → Int → gS → gA
  | 0 => fun _ _ _ _ _ => none
  | n + 1 => Filler_sweep_8 (Filler_sweep_8L n)
def Filler_sweep (a1 : Int) (s : gS) : gA := (Filler_sweep_8L gFu) a1 0 0 0 s
-- BandPress$Filler.trace(LBandPress$Path;Z)V (15, 28)
def Filler_trace_35 (k2 : Int → Int → gS → gA) (l2 l3 t1 t2 : Int) (s : gS) : gA := if 0 ≤ w32 t1 ∧ w32 t1 < 48 then g_le (g_up s 16 (w32 t1).toNat t2) fun s7 => (k2 l2 (l3 + 1) s7) else none
def Filler_trace_2 (k2 : Int → Int → gS → gA) (l2 l3 : Int) (s : gS) : gA := if 48 ≤ w32 l3 then (some (0, s)) else (g_bi (Filler_meetEdges ((4 * l3) + 2) s) fun r2 s3 => (if w32 r2 = 0 then ((Filler_trace_35 k2) l2 l3 l3 0 s3) else (g_bi (Filler_sweep l2 s3) fun r9 s10 => ((Filler_trace_35 k2) l2 l3 l3 r9 s10))))
def Filler_trace_2L : Nat → Int → Int → gS → gA
  | 0 => fun _ _ _ => none
  | n + 1 => Filler_trace_2 (Filler_trace_2L n)
def Filler_trace (a2 : Int) (s : gS) : gA := (Filler_trace_2L gFu) a2 0 s
-- BandPress$Settings.clipLine(I)J (21,)
def Settings_clipLine (a1 : Int) (s : gS) : gA := if 0 ≤ w32 (((s 21 6) * 48) + a1) ∧ w32 (((s 21 6) * 48) + a1) < 240 then (some (s 27 (w32 (((s 21 6) * 48) + a1)).toNat, s)) else none
-- java/lang/Long.bitCount(J)I ()
def Long_bitCount (a0 : Int) (s : gS) : gA := g_le (a0 - (l_and (l_ushr a0 1) 6148914691236517205)) fun v1 => g_le ((l_and v1 3689348814741910323) + (l_and (l_ushr v1 2) 3689348814741910323)) fun v3 => g_le (l_and (v3 + (l_ushr v3 4)) 1085102592571150095) fun v5 => g_le (v5 + (l_ushr v5 8)) fun v7 => g_le (v7 + (l_ushr v7 16)) fun v9 => g_le (v9 + (l_ushr v9 32)) fun v11 => (some (i_and v11 127, s))
-- BandPress$Pages.marksOf([JLBandPress$Settings;)I (16, 21)
def Pages_marksOf_4 (k4 : Int → Int → gS → gA) (l2 l3 : Int) (s : gS) : gA := if 48 ≤ w32 l3 then (some (l2, s)) else (if 0 ≤ w32 l3 ∧ w32 l3 < 48 then g_bi (Settings_clipLine l3 s) fun r3 s4 => g_le (l_and (s 16 (w32 l3).toNat) r3) fun v6 => g_bi (Long_bitCount (l_and v6 (l_xor (l_ushr v6 1) (-1))) s4) fun r8 s9 => g_le (l2 + r8) fun v11 => (k4 v11 (l3 + 1) s9) else none)
def Pages_marksOf_4L : Nat → Int → Int → gS → gA
  | 0 => fun _ _ _ => none
  | n + 1 => Pages_marksOf_4 (Pages_marksOf_4L n)
def Pages_marksOf (s : gS) : gA := (Pages_marksOf_4L gFu) 0 0 s
-- BandPress$Job.marksTooMuch(I)Z (5,)
def Job_marksTooMuch_19 (t2 : Int) (s : gS) : gA := g_bi (Filler_trace t2 s) fun _ s3 => g_bi (Pages_marksOf s3) fun r5 s6 => (if w32 ((s3 34 3) + r5) ≤ 250 then (some (0, s6)) else (some (1, s6)))
def Job_marksTooMuch (a1 : Int) (s : gS) : gA := if w32 a1 = 69 then (Job_marksTooMuch_19 1 s) else (Job_marksTooMuch_19 0 s)
-- BandPress$Pages.isFull()Z (34,)
def Pages_isFull (s : gS) : gA := if w32 (s 34 2) < 8 then (some (0, s)) else (some (1, s))
-- BandPress$Settings.saved()I (21,)
def Settings_saved (s : gS) : gA := some (s 21 6, s)
-- BandPress$Calls.innermostLoop()I (10,)
def Calls_innermostLoop_5 (k5 : Int → gS → gA) (l1 : Int) (s : gS) : gA := if w32 l1 < 0 then (some ((-1), s)) else (if 0 ≤ w32 l1 ∧ w32 l1 < 21 then (if w32 (s 14 (w32 l1).toNat) ≤ 0 then (k5 (l1 + (-1)) s) else (some (l1, s))) else none)
def Calls_innermostLoop_5L : Nat → Int → gS → gA
  | 0 => fun _ _ => none
  | n + 1 => Calls_innermostLoop_5 (Calls_innermostLoop_5L n)
def Calls_innermostLoop (s : gS) : gA := g_le (s 10 4) fun v1 => ((Calls_innermostLoop_5L gFu) v1 s)
-- BandPress$Job.errorOf(I)I (5,)
def Job_errorOf_225 (s : gS) : gA := if w32 (s 5 11) < w32 (s 5 12) then (some (0, s)) else (some (12, s))
def Job_errorOf_205 (l1 : Int) (s : gS) : gA := if w32 l1 = 81 then (g_bi (Calls_innermostLoop s) fun r38 s39 => (if w32 r38 = (-1) then (some (11, s39)) else (Job_errorOf_225 s39))) else (Job_errorOf_225 s)
def Job_errorOf_186 (l1 : Int) (s : gS) : gA := if w32 l1 = 86 then (g_bi (Settings_saved s) fun r42 s43 => (if w32 r42 = 0 then (some (10, s43)) else (Job_errorOf_205 l1 s43))) else (Job_errorOf_205 l1 s)
def Job_errorOf_169 (l1 : Int) (s : gS) : gA := if w32 l1 = 85 then (g_bi (Settings_saved s) fun r46 s47 => (if w32 r46 = 4 then (some (10, s47)) else (Job_errorOf_186 l1 s47))) else (Job_errorOf_186 l1 s)
def Job_errorOf_150 (l1 : Int) (s : gS) : gA := if w32 l1 = 80 then (g_bi (Pages_isFull s) fun r50 s51 => (if w32 r50 = 0 then (Job_errorOf_169 l1 s51) else (some (9, s51)))) else (Job_errorOf_169 l1 s)
def Job_errorOf_139 (l1 : Int) (s : gS) : gA := g_bi (Job_marksTooMuch l1 s) fun r29 s30 => (if w32 r29 = 0 then (Job_errorOf_150 l1 s30) else (some (8, s30)))
def Job_errorOf_105 (l1 : Int) (s : gS) : gA := g_bi (Job_placesFor l1 s) fun r24 s25 => (if w32 ((s 28 5) + r24) ≤ 200 then (if w32 l1 = 70 then (Job_errorOf_139 l1 s25) else (if w32 l1 = 69 then (Job_errorOf_139 l1 s25) else (Job_errorOf_150 l1 s25))) else (some (7, s25)))
def Job_errorOf_92 (l1 : Int) (s : gS) : gA := if w32 (s 28 5) = 0 then (some (6, s)) else (Job_errorOf_105 l1 s)
def Job_errorOf_64 (l1 : Int) (s : gS) : gA := g_bi (Job_lacksRoom l1 s) fun r18 s19 => (if w32 r18 = 0 then (if w32 l1 = 76 then (Job_errorOf_92 l1 s19) else (if w32 l1 = 67 then (Job_errorOf_92 l1 s19) else (if w32 l1 = 90 then (Job_errorOf_92 l1 s19) else (Job_errorOf_105 l1 s19)))) else (some (5, s19)))
def Job_errorOf_51 (l1 : Int) (s : gS) : gA := g_bi (Values_peek 0 s) fun r14 s15 => (if w32 r14 = 0 then (some (4, s15)) else (Job_errorOf_64 l1 s15))
def Job_errorOf (a1 : Int) (s : gS) : gA := g_bi (Job_needs a1 s) fun r1 s2 => (if w32 r1 ≤ w32 (s2 18 1) then (g_bi (Job_kindsFit a1 r1 s2) fun r5 s6 => (if w32 r5 = 0 then (some (2, s6)) else (g_bi (Job_goesBeyond a1 s6) fun r9 s10 => (if w32 r9 = 0 then (if w32 a1 = 47 then (Job_errorOf_51 a1 s10) else (if w32 a1 = 37 then (Job_errorOf_51 a1 s10) else (Job_errorOf_64 a1 s10))) else (some (3, s10)))))) else (some (1, s2)))
-- BandPress$Text.closing(I)I (6,)
def Text_closing (a1 : Int) (s : gS) : gA := if w32 a1 < 0 then (some (s 6 3, s)) else (if w32 a1 < w32 (s 6 3) then (if 0 ≤ w32 a1 ∧ w32 a1 < 300 then (some (s 8 (w32 a1).toNat, s)) else none) else (some (s 6 3, s)))
-- BandPress$Text.behindDigits(I)I (6,)
def Text_behindDigits_2 (k2 : Int → gS → gA) (l2 : Int) (s : gS) : gA := if w32 (s 6 3) ≤ w32 l2 then (some (l2, s)) else (g_bi (Text_sign l2 s) fun r2 s3 => g_bi (B_isDigit r2 s3) fun r5 s6 => (if w32 r5 = 0 then (some (l2, s6)) else (k2 (l2 + 1) s6)))
def Text_behindDigits_2L : Nat → Int → gS → gA
  | 0 => fun _ _ => none
  | n + 1 => Text_behindDigits_2 (Text_behindDigits_2L n)
def Text_behindDigits (a1 : Int) (s : gS) : gA := (Text_behindDigits_2L gFu) a1 s
-- BandPress$Text.behind(I)I (6,)
def Text_behind (a1 : Int) (s : gS) : gA := g_bi (Text_sign a1 s) fun r1 s2 => (if w32 r1 = 123 then (g_bi (Text_closing a1 s2) fun r13 s14 => (some (r13 + 1, s14))) else (if w32 r1 = 58 then (some (a1 + 2, s2)) else (g_bi (B_isDigit r1 s2) fun r6 s7 => (if w32 r6 = 0 then (some (a1 + 1, s7)) else (g_bi (Text_behindDigits a1 s7) fun r10 s11 => (some (r10, s11)))))))
-- BandPress$Calls.goTo(I)V (10,)
def Calls_goTo (a1 : Int) (s : gS) : gA := if w32 (s 10 4) < 0 then (some (0, s)) else (if 0 ≤ w32 (s 10 4) ∧ w32 (s 10 4) < 21 then g_le (g_up s 11 (w32 (s 10 4)).toNat a1) fun s3 => (some (0, s3)) else none)
-- BandPress$Text.number(I)I (6,)
def Text_number_11 (k11 : Int → Int → Int → gS → gA) (l2 l3 l4 : Int) (s : gS) : gA := if w32 l2 ≤ w32 l4 then (some (l3, s)) else (g_bi (Text_sign l4 s) fun r5 s6 => g_le (((10 * l3) + r5) - 48) fun v8 => (k11 l2 v8 (l4 + 1) s6))
def Text_number_11L : Nat → Int → Int → Int → gS → gA
  | 0 => fun _ _ _ _ => none
  | n + 1 => Text_number_11 (Text_number_11L n)
def Text_number (a1 : Int) (s : gS) : gA := g_bi (Text_behindDigits a1 s) fun r1 s2 => ((Text_number_11L gFu) r1 0 a1 s2)
-- BandPress$Values.push(I)V (18,)
def Values_push (a1 : Int) (s : gS) : gA := if 32 ≤ w32 (s 18 1) then (some (0, s)) else (if 0 ≤ w32 (s 18 1) ∧ w32 (s 18 1) < 32 then g_le (g_up s 19 (w32 (s 18 1)).toNat a1) fun s3 => g_le (g_up s3 18 1 ((s3 18 1) + 1)) fun s5 => (some (0, s5)) else none)
-- BandPress$Values.drop(I)V (18,)
def Values_drop (a1 : Int) (s : gS) : gA := g_bi (Math_max 0 ((s 18 1) - a1) s) fun r1 s2 => g_le (g_up s2 18 1 r1) fun s4 => (some (0, s4))
-- BandPress$Job.assign(I)V (5,)
def Job_assign_24 (s : gS) : gA := g_bi (Values_drop 1 s) fun _ s6 => (some (0, s6))
def Job_assign (a1 : Int) (s : gS) : gA := g_bi (B_isLetter a1 s) fun r1 s2 => (if w32 r1 = 0 then (Job_assign_24 s2) else (g_bi (Values_peek 0 s2) fun r8 s9 => if 0 ≤ w32 (a1 - 97) ∧ w32 (a1 - 97) < 26 then g_le (g_up s9 20 (w32 (a1 - 97)).toNat r8) fun s12 => (Job_assign_24 s12) else none))
-- java/lang/String.isLatin1()Z (1000,)
def String_isLatin1 (s : gS) : gA := some (1, s)
-- java/lang/String.coder()B (1000,)
def String_coder (s : gS) : gA := some (0, s)
-- java/lang/String.length()I (1000,)
def String_length (s : gS) : gA := some (i_shr 3 0, s)
-- java/lang/StringLatin1.canEncode(I)Z ()
def StringLatin1_canEncode (a0 : Int) (s : gS) : gA := if w32 a0 < 0 then (some (0, s)) else (if 255 < w32 a0 then (some (0, s)) else (some (1, s)))
-- java/lang/Math.min(II)I ()
def Math_min1 (a0 a1 : Int) (s : gS) : gA := if w32 a1 < w32 a0 then (some (a1, s)) else (some (a0, s))
-- java/lang/StringLatin1.indexOfChar([BIII)I (2000,)
def StringLatin1_indexOfChar_7 (k7 : Int → Int → Int → gS → gA) (l3 l4 l5 : Int) (s : gS) : gA := if w32 l3 ≤ w32 l5 then (some ((-1), s)) else (if 0 ≤ w32 l5 ∧ w32 l5 < 3 then (if w32 (g_by 0 (w32 l5).toNat) = w32 l4 then (some (l5, s)) else (k7 l3 l4 (l5 + 1) s)) else none)
def StringLatin1_indexOfChar_7L : Nat → Int → Int → Int → gS → gA
  | 0 => fun _ _ _ _ => none
  | n + 1 => StringLatin1_indexOfChar_7 (StringLatin1_indexOfChar_7L n)
def StringLatin1_indexOfChar (a1 a2 a3 : Int) (s : gS) : gA := g_le (i_2b a1) fun v1 => ((StringLatin1_indexOfChar_7L gFu) a3 v1 a2 s)
-- java/lang/StringLatin1.indexOf([BIII)I (2000,)
def StringLatin1_indexOf (a1 a2 a3 : Int) (s : gS) : gA := g_bi (StringLatin1_canEncode a1 s) fun r1 s2 => (if w32 r1 = 0 then (some ((-1), s2)) else (g_bi (Math_max a2 0 s2) fun r5 s6 => g_bi (Math_min1 a3 3 s6) fun r8 s9 => (if w32 r5 < w32 r8 then (g_bi (StringLatin1_indexOfChar a1 r5 r8 s9) fun r12 s13 => (some (r12, s13))) else (some ((-1), s9)))))
-- java/lang/String.indexOf(II)I (1000,)
def String_indexOf1 (a1 a2 : Int) (s : gS) : gA := g_bi (String_length s) fun r1 s2 => g_bi (StringLatin1_indexOf a1 a2 r1 s2) fun r4 s5 => (some (r4, s5))
-- java/lang/String.indexOf(I)I (1000,)
def String_indexOf (a1 : Int) (s : gS) : gA := g_bi (String_indexOf1 a1 0 s) fun r1 s2 => (some (r1, s2))
-- BandPress.isOneOf(Ljava/lang/String;I)Z (1000,)
def B_isOneOf (a1 : Int) (s : gS) : gA := g_bi (String_indexOf (i_2c a1) s) fun r1 s2 => (if w32 r1 < 0 then (some (0, s2)) else (some (1, s2)))
-- BandPress$Calls.leaveLoop()V (10,)
def Calls_leaveLoop (s : gS) : gA := g_bi (Calls_innermostLoop s) fun r1 s2 => (if w32 r1 = (-1) then (some (0, s2)) else (g_le (g_up s2 10 4 (r1 - 1)) fun s5 => (some (0, s5))))
-- BandPress$Text.skipBlanks(II)I (6,)
def Text_skipBlanks_2 (k2 : Int → Int → gS → gA) (l2 l3 : Int) (s : gS) : gA := if w32 l2 ≤ w32 l3 then (some (l3, s)) else (g_bi (Text_sign l3 s) fun r2 s3 => (if w32 r2 = 32 then (k2 l2 (l3 + 1) s3) else (some (l3, s3))))
def Text_skipBlanks_2L : Nat → Int → Int → gS → gA
  | 0 => fun _ _ _ => none
  | n + 1 => Text_skipBlanks_2 (Text_skipBlanks_2L n)
def Text_skipBlanks (a1 a2 : Int) (s : gS) : gA := (Text_skipBlanks_2L gFu) a2 a1 s
-- BandPress$Calls.push(III)V (10,)
def Calls_push (a1 a2 a3 : Int) (s : gS) : gA := if 20 ≤ w32 (s 10 4) then (some (0, s)) else (g_le (g_up s 10 4 ((s 10 4) + 1)) fun s2 => if 0 ≤ w32 (s2 10 4) ∧ w32 (s2 10 4) < 21 then g_le (g_up s2 11 (w32 (s2 10 4)).toNat a1) fun s5 => if 0 ≤ w32 (s5 10 4) ∧ w32 (s5 10 4) < 21 then g_le (g_up s5 12 (w32 (s5 10 4)).toNat a1) fun s8 => if 0 ≤ w32 (s8 10 4) ∧ w32 (s8 10 4) < 21 then g_le (g_up s8 13 (w32 (s8 10 4)).toNat a2) fun s11 => if 0 ≤ w32 (s11 10 4) ∧ w32 (s11 10 4) < 21 then g_le (g_up s11 14 (w32 (s11 10 4)).toNat a3) fun s14 => (some (0, s14)) else none else none else none else none)
-- BandPress$Calls.enter(LBandPress$Text;II)V (10, 6)
def Calls_enter (a2 a3 : Int) (s : gS) : gA := g_le (a2 - 2000000) fun v1 => g_bi (Text_closing v1 s) fun r3 s4 => g_bi (Text_skipBlanks (v1 + 1) r3 s4) fun r6 s7 => (if w32 r3 ≤ w32 r6 then (some (0, s7)) else (g_bi (Calls_push (v1 + 1) r3 a3 s7) fun _ s11 => (some (0, s11))))
-- BandPress$Job.control(I)V (5,)
def Job_control_76 (t2 : Int) (s : gS) : gA := g_bi (Calls_enter t2 0 s) fun _ s24 => (some (0, s24))
def Job_control (a1 : Int) (s : gS) : gA := g_bi (Values_peek 0 s) fun r1 s2 => g_bi (Values_peek 1 s2) fun r4 s5 => g_bi (Values_peek 2 s5) fun r7 s8 => (if w32 a1 = 81 then (g_bi (Calls_leaveLoop s8) fun _ s27 => (some (0, s27))) else (if w32 a1 = 63 then (g_bi (Values_drop 3 s8) fun _ s20 => (if w32 r7 = 0 then (Job_control_76 r1 s20) else (Job_control_76 r4 s20))) else (g_bi (Values_drop 2 s8) fun _ s13 => (if w32 r4 < 1 then (some (0, s13)) else (g_bi (Calls_enter r1 r4 s13) fun _ s17 => (some (0, s17)))))))
-- java/lang/String.isLatin1()Z (1001,)
def String_isLatin1_b (s : gS) : gA := some (1, s)
-- java/lang/String.coder()B (1001,)
def String_coder_b (s : gS) : gA := some (0, s)
-- java/lang/String.length()I (1001,)
def String_length_b (s : gS) : gA := some (i_shr 5 0, s)
-- java/lang/StringLatin1.indexOfChar([BIII)I (2001,)
def StringLatin1_indexOfChar_b_7 (k7 : Int → Int → Int → gS → gA) (l3 l4 l5 : Int) (s : gS) : gA := if w32 l3 ≤ w32 l5 then (some ((-1), s)) else (if 0 ≤ w32 l5 ∧ w32 l5 < 5 then (if w32 (g_by 1 (w32 l5).toNat) = w32 l4 then (some (l5, s)) else (k7 l3 l4 (l5 + 1) s)) else none)
def StringLatin1_indexOfChar_b_7L : Nat → Int → Int → Int → gS → gA
  | 0 => fun _ _ _ _ => none
  | n + 1 => StringLatin1_indexOfChar_b_7 (StringLatin1_indexOfChar_b_7L n)
def StringLatin1_indexOfChar_b (a1 a2 a3 : Int) (s : gS) : gA := g_le (i_2b a1) fun v1 => ((StringLatin1_indexOfChar_b_7L gFu) a3 v1 a2 s)
-- java/lang/StringLatin1.indexOf([BIII)I (2001,)
def StringLatin1_indexOf_b (a1 a2 a3 : Int) (s : gS) : gA := g_bi (StringLatin1_canEncode a1 s) fun r1 s2 => (if w32 r1 = 0 then (some ((-1), s2)) else (g_bi (Math_max a2 0 s2) fun r5 s6 => g_bi (Math_min1 a3 5 s6) fun r8 s9 => (if w32 r5 < w32 r8 then (g_bi (StringLatin1_indexOfChar_b a1 r5 r8 s9) fun r12 s13 => (some (r12, s13))) else (some ((-1), s9)))))
-- java/lang/String.indexOf(II)I (1001,)
def String_indexOf1_b (a1 a2 : Int) (s : gS) : gA := g_bi (String_length_b s) fun r1 s2 => g_bi (StringLatin1_indexOf_b a1 a2 r1 s2) fun r4 s5 => (some (r4, s5))
-- java/lang/String.indexOf(I)I (1001,)
def String_indexOf_b (a1 : Int) (s : gS) : gA := g_bi (String_indexOf1_b a1 0 s) fun r1 s2 => (some (r1, s2))
-- BandPress.isOneOf(Ljava/lang/String;I)Z (1001,)
def B_isOneOf_b (a1 : Int) (s : gS) : gA := g_bi (String_indexOf_b (i_2c a1) s) fun r1 s2 => (if w32 r1 < 0 then (some (0, s2)) else (some (1, s2)))
-- BandPress$Path.close()V (28,)
def Path_close (s : gS) : gA := g_le (g_up s 28 7 1) fun s1 => (some (0, s1))
-- BandPress$Job.placedX(I)I (5,)
def Job_placedX (a1 : Int) (s : gS) : gA := g_bi (Values_peek a1 s) fun r1 s2 => g_bi (Settings_placedX r1 s2) fun r4 s5 => (some (r4, s5))
-- BandPress$Job.placedY(I)I (5,)
def Job_placedY (a1 : Int) (s : gS) : gA := g_bi (Values_peek a1 s) fun r1 s2 => g_bi (Settings_placedY r1 s2) fun r4 s5 => (some (r4, s5))
-- BandPress$Path.add(IIZ)V (28,)
def Path_add (a1 a2 a3 : Int) (s : gS) : gA := if 200 ≤ w32 (s 28 5) then (some (0, s)) else (if 0 ≤ w32 (s 28 5) ∧ w32 (s 28 5) < 200 then g_le (g_up s 29 (w32 (s 28 5)).toNat a1) fun s3 => if 0 ≤ w32 (s3 28 5) ∧ w32 (s3 28 5) < 200 then g_le (g_up s3 30 (w32 (s3 28 5)).toNat a2) fun s6 => if 0 ≤ w32 (s6 28 5) ∧ w32 (s6 28 5) < 200 then g_le (g_up s6 31 (w32 (s6 28 5)).toNat (i_nar .boolean a3)) fun s9 => g_le (g_up s9 28 5 ((s9 28 5) + 1)) fun s11 => (some (0, s11)) else none else none else none)
-- BandPress$Path.begin(II)V (28,)
def Path_begin (a1 a2 : Int) (s : gS) : gA := g_le (g_up s 28 6 (s 28 5)) fun s1 => g_le (g_up s1 28 7 0) fun s3 => g_bi (Path_add a1 a2 1 s3) fun _ s6 => (some (0, s6))
-- BandPress$Path.goOn()V (28,)
def Path_goOn (s : gS) : gA := if w32 (s 28 7) = 0 then (some (0, s)) else (if 0 ≤ w32 (s 28 6) ∧ w32 (s 28 6) < 200 then if 0 ≤ w32 (s 28 6) ∧ w32 (s 28 6) < 200 then g_bi (Path_begin (s 29 (w32 (s 28 6)).toNat) (s 30 (w32 (s 28 6)).toNat) s) fun _ s5 => (some (0, s5)) else none else none)
-- BandPress$Path.lineTo(II)V (28,)
def Path_lineTo (a1 a2 : Int) (s : gS) : gA := g_bi (Path_goOn s) fun _ s2 => g_bi (Path_add a1 a2 0 s2) fun _ s5 => (some (0, s5))
-- BandPress$Path.bend(III)V (28,)
def Path_bend (a1 a2 a3 : Int) (s : gS) : gA := if 0 ≤ w32 (a1 * 8) ∧ w32 (a1 * 8) < 25 then g_le (g_up s 32 (w32 (a1 * 8)).toNat a2) fun s2 => if 0 ≤ w32 (a1 * 8) ∧ w32 (a1 * 8) < 25 then g_le (g_up s2 33 (w32 (a1 * 8)).toNat a3) fun s5 => (some (0, s5)) else none else none
-- BandPress$Path.middle(II)I ()
def Path_middle (a0 a1 : Int) (s : gS) : gA := some (i_shr (a0 + a1) 1, s)
-- BandPress$Path.halve([III)V (32,)
def Path_halve (a1 a2 : Int) (s : gS) : gA := g_le (i_div a2 2) fun v2 => if 0 ≤ w32 a1 ∧ w32 a1 < 25 then if 0 ≤ w32 (a1 + a2) ∧ w32 (a1 + a2) < 25 then g_bi (Path_middle (s 32 (w32 a1).toNat) (s 32 (w32 (a1 + a2)).toNat) s) fun r6 s7 => if 0 ≤ w32 (a1 + a2) ∧ w32 (a1 + a2) < 25 then if 0 ≤ w32 (a1 + (2 * a2)) ∧ w32 (a1 + (2 * a2)) < 25 then g_bi (Path_middle (s7 32 (w32 (a1 + a2)).toNat) (s7 32 (w32 (a1 + (2 * a2))).toNat) s7) fun r11 s12 => if 0 ≤ w32 (a1 + (2 * a2)) ∧ w32 (a1 + (2 * a2)) < 25 then if 0 ≤ w32 (a1 + (3 * a2)) ∧ w32 (a1 + (3 * a2)) < 25 then g_bi (Path_middle (s12 32 (w32 (a1 + (2 * a2))).toNat) (s12 32 (w32 (a1 + (3 * a2))).toNat) s12) fun r16 s17 => g_bi (Path_middle r6 r11 s17) fun r19 s20 => g_bi (Path_middle r11 r16 s20) fun r22 s23 => if 0 ≤ w32 (a1 + v2) ∧ w32 (a1 + v2) < 25 then g_le (g_up s23 32 (w32 (a1 + v2)).toNat r6) fun s26 => if 0 ≤ w32 (a1 + (2 * v2)) ∧ w32 (a1 + (2 * v2)) < 25 then g_le (g_up s26 32 (w32 (a1 + (2 * v2))).toNat r19) fun s29 => g_bi (Path_middle r19 r22 s29) fun r31 s32 => if 0 ≤ w32 (a1 + (3 * v2)) ∧ w32 (a1 + (3 * v2)) < 25 then g_le (g_up s32 32 (w32 (a1 + (3 * v2))).toNat r31) fun s35 => if 0 ≤ w32 (a1 + (4 * v2)) ∧ w32 (a1 + (4 * v2)) < 25 then g_le (g_up s35 32 (w32 (a1 + (4 * v2))).toNat r22) fun s38 => if 0 ≤ w32 (a1 + (5 * v2)) ∧ w32 (a1 + (5 * v2)) < 25 then g_le (g_up s38 32 (w32 (a1 + (5 * v2))).toNat r16) fun s41 => (some (0, s41)) else none else none else none else none else none else none else none else none else none else none else none
-- BandPress$Path.halve([III)V (33,)
def Path_halve_b (a1 a2 : Int) (s : gS) : gA := g_le (i_div a2 2) fun v2 => if 0 ≤ w32 a1 ∧ w32 a1 < 25 then if 0 ≤ w32 (a1 + a2) ∧ w32 (a1 + a2) < 25 then g_bi (Path_middle (s 33 (w32 a1).toNat) (s 33 (w32 (a1 + a2)).toNat) s) fun r6 s7 => if 0 ≤ w32 (a1 + a2) ∧ w32 (a1 + a2) < 25 then if 0 ≤ w32 (a1 + (2 * a2)) ∧ w32 (a1 + (2 * a2)) < 25 then g_bi (Path_middle (s7 33 (w32 (a1 + a2)).toNat) (s7 33 (w32 (a1 + (2 * a2))).toNat) s7) fun r11 s12 => if 0 ≤ w32 (a1 + (2 * a2)) ∧ w32 (a1 + (2 * a2)) < 25 then if 0 ≤ w32 (a1 + (3 * a2)) ∧ w32 (a1 + (3 * a2)) < 25 then g_bi (Path_middle (s12 33 (w32 (a1 + (2 * a2))).toNat) (s12 33 (w32 (a1 + (3 * a2))).toNat) s12) fun r16 s17 => g_bi (Path_middle r6 r11 s17) fun r19 s20 => g_bi (Path_middle r11 r16 s20) fun r22 s23 => if 0 ≤ w32 (a1 + v2) ∧ w32 (a1 + v2) < 25 then g_le (g_up s23 33 (w32 (a1 + v2)).toNat r6) fun s26 => if 0 ≤ w32 (a1 + (2 * v2)) ∧ w32 (a1 + (2 * v2)) < 25 then g_le (g_up s26 33 (w32 (a1 + (2 * v2))).toNat r19) fun s29 => g_bi (Path_middle r19 r22 s29) fun r31 s32 => if 0 ≤ w32 (a1 + (3 * v2)) ∧ w32 (a1 + (3 * v2)) < 25 then g_le (g_up s32 33 (w32 (a1 + (3 * v2))).toNat r31) fun s35 => if 0 ≤ w32 (a1 + (4 * v2)) ∧ w32 (a1 + (4 * v2)) < 25 then g_le (g_up s35 33 (w32 (a1 + (4 * v2))).toNat r22) fun s38 => if 0 ≤ w32 (a1 + (5 * v2)) ∧ w32 (a1 + (5 * v2)) < 25 then g_le (g_up s38 33 (w32 (a1 + (5 * v2))).toNat r16) fun s41 => (some (0, s41)) else none else none else none else none else none else none else none else none else none else none else none
-- BandPress$Path.curve()V (28,)
def Path_curve_42 (k42 : Int → Int → gS → gA) (k75 : Int → gS → gA) (l2 l3 : Int) (s : gS) : gA := if 24 ≤ w32 l3 then (k75 l2 s) else (g_bi (Path_halve l3 l2 s) fun _ s15 => g_bi (Path_halve_b l3 l2 s15) fun _ s18 => g_le (l3 + (3 * l2)) fun v20 => (k42 l2 v20 s18))
def Path_curve_42L (k75 : Int → gS → gA) : Nat → Int → Int → gS → gA
  | 0 => fun _ _ _ => none
  | n + 1 => Path_curve_42 (Path_curve_42L k75 n) k75
def Path_curve_75 (k35 : Int → gS → gA) (l2 : Int) (s : gS) : gA := g_le (i_div l2 2) fun v23 => (k35 v23 s)
def Path_curve_35 (k35 : Int → gS → gA) (k82 : gS → gA) (l2 : Int) (s : gS) : gA := if w32 l2 ≤ 1 then (k82 s) else ((Path_curve_42L (Path_curve_75 k35) gFu) l2 0 s)
def Path_curve_35L (k82 : gS → gA) : Nat → Int → gS → gA
  | 0 => fun _ _ => none
  | n + 1 => Path_curve_35 (Path_curve_35L k82 n) k82
def Path_curve_84 (k84 : Int → gS → gA) (l2 : Int) (s : gS) : gA := if 24 < w32 l2 then (some (0, s)) else (if 0 ≤ w32 l2 ∧ w32 l2 < 25 then if 0 ≤ w32 l2 ∧ w32 l2 < 25 then g_bi (Path_add (s 32 (w32 l2).toNat) (s 33 (w32 l2).toNat) 0 s) fun _ s29 => (k84 (l2 + 3) s29) else none else none)
def Path_curve_84L : Nat → Int → gS → gA
  | 0 => fun _ _ => none
  | n + 1 => Path_curve_84 (Path_curve_84L n)
def Path_curve_82 (s : gS) : gA := (Path_curve_84L gFu) 3 s
def Path_curve (s : gS) : gA := g_bi (Path_goOn s) fun _ s2 => g_bi (Math_max 0 ((s2 28 5) - 1) s2) fun r4 s5 => if 0 ≤ w32 r4 ∧ w32 r4 < 200 then if 0 ≤ w32 r4 ∧ w32 r4 < 200 then g_bi (Path_bend 0 (s5 29 (w32 r4).toNat) (s5 30 (w32 r4).toNat) s5) fun _ s10 => ((Path_curve_35L Path_curve_82 gFu) 8 s10) else none else none
-- BandPress$Path.clear()V (28,)
def Path_clear (s : gS) : gA := g_le (g_up s 28 5 0) fun s1 => g_le (g_up s1 28 6 0) fun s3 => g_le (g_up s3 28 7 0) fun s5 => (some (0, s5))
-- BandPress$Job.draw(I)V (5,)
def Job_draw_165 (l1 : Int) (s : gS) : gA := g_bi (Job_needs l1 s) fun r35 s36 => g_bi (Values_drop r35 s36) fun _ s39 => (some (0, s39))
def Job_draw (a1 : Int) (s : gS) : gA := if w32 a1 = 67 then (g_bi (Job_placedX 5 s) fun r5 s6 => g_bi (Job_placedY 4 s6) fun r8 s9 => g_bi (Path_bend 1 r5 r8 s9) fun _ s12 => g_bi (Job_placedX 3 s12) fun r14 s15 => g_bi (Job_placedY 2 s15) fun r17 s18 => g_bi (Path_bend 2 r14 r17 s18) fun _ s21 => g_bi (Job_placedX 1 s21) fun r23 s24 => g_bi (Job_placedY 0 s24) fun r26 s27 => g_bi (Path_bend 3 r23 r26 s27) fun _ s30 => g_bi (Path_curve s30) fun _ s33 => (Job_draw_165 a1 s33)) else (if w32 a1 = 76 then (g_bi (Job_placedX 1 s) fun r41 s42 => g_bi (Job_placedY 0 s42) fun r44 s45 => g_bi (Path_lineTo r41 r44 s45) fun _ s48 => (Job_draw_165 a1 s48)) else (if w32 a1 = 77 then (g_bi (Job_placedX 1 s) fun r50 s51 => g_bi (Job_placedY 0 s51) fun r53 s54 => g_bi (Path_begin r50 r53 s54) fun _ s57 => (Job_draw_165 a1 s57)) else (if w32 a1 = 90 then (g_bi (Path_close s) fun _ s60 => (Job_draw_165 a1 s60)) else (g_bi (Path_clear s) fun _ s63 => (Job_draw_165 a1 s63)))))
-- java/lang/String.isLatin1()Z (1002,)
def String_isLatin1_c (s : gS) : gA := some (1, s)
-- java/lang/String.coder()B (1002,)
def String_coder_c (s : gS) : gA := some (0, s)
-- java/lang/String.length()I (1002,)
def String_length_c (s : gS) : gA := some (i_shr 9 0, s)
-- java/lang/StringLatin1.indexOfChar([BIII)I (2002,)
def StringLatin1_indexOfChar_c_7 (k7 : Int → Int → Int → gS → gA) (l3 l4 l5 : Int) (s : gS) : gA := if w32 l3 ≤ w32 l5 then (some ((-1), s)) else (if 0 ≤ w32 l5 ∧ w32 l5 < 9 then (if w32 (g_by 2 (w32 l5).toNat) = w32 l4 then (some (l5, s)) else (k7 l3 l4 (l5 + 1) s)) else none)
def StringLatin1_indexOfChar_c_7L : Nat → Int → Int → Int → gS → gA
  | 0 => fun _ _ _ _ => none
  | n + 1 => StringLatin1_indexOfChar_c_7 (StringLatin1_indexOfChar_c_7L n)
def StringLatin1_indexOfChar_c (a1 a2 a3 : Int) (s : gS) : gA := g_le (i_2b a1) fun v1 => ((StringLatin1_indexOfChar_c_7L gFu) a3 v1 a2 s)
-- java/lang/StringLatin1.indexOf([BIII)I (2002,)
def StringLatin1_indexOf_c (a1 a2 a3 : Int) (s : gS) : gA := g_bi (StringLatin1_canEncode a1 s) fun r1 s2 => (if w32 r1 = 0 then (some ((-1), s2)) else (g_bi (Math_max a2 0 s2) fun r5 s6 => g_bi (Math_min1 a3 9 s6) fun r8 s9 => (if w32 r5 < w32 r8 then (g_bi (StringLatin1_indexOfChar_c a1 r5 r8 s9) fun r12 s13 => (some (r12, s13))) else (some ((-1), s9)))))
-- java/lang/String.indexOf(II)I (1002,)
def String_indexOf1_c (a1 a2 : Int) (s : gS) : gA := g_bi (String_length_c s) fun r1 s2 => g_bi (StringLatin1_indexOf_c a1 a2 r1 s2) fun r4 s5 => (some (r4, s5))
-- java/lang/String.indexOf(I)I (1002,)
def String_indexOf_c (a1 : Int) (s : gS) : gA := g_bi (String_indexOf1_c a1 0 s) fun r1 s2 => (some (r1, s2))
-- BandPress.isOneOf(Ljava/lang/String;I)Z (1002,)
def B_isOneOf_c (a1 : Int) (s : gS) : gA := g_bi (String_indexOf_c (i_2c a1) s) fun r1 s2 => (if w32 r1 < 0 then (some (0, s2)) else (some (1, s2)))
-- BandPress$Settings.cutClip([J)V (21, 16)
def Settings_cutClip_2 (k2 : Int → gS → gA) (l2 : Int) (s : gS) : gA := if 48 ≤ w32 l2 then (some (0, s)) else (if 0 ≤ w32 (((s 21 6) * 48) + l2) ∧ w32 (((s 21 6) * 48) + l2) < 240 then if 0 ≤ w32 l2 ∧ w32 l2 < 48 then if 0 ≤ w32 (((s 21 6) * 48) + l2) ∧ w32 (((s 21 6) * 48) + l2) < 240 then g_le (g_up s 27 (w32 (((s 21 6) * 48) + l2)).toNat (l_and (s 27 (w32 (((s 21 6) * 48) + l2)).toNat) (s 16 (w32 l2).toNat))) fun s5 => (k2 (l2 + 1) s5) else none else none else none)
def Settings_cutClip_2L : Nat → Int → gS → gA
  | 0 => fun _ _ => none
  | n + 1 => Settings_cutClip_2 (Settings_cutClip_2L n)
def Settings_cutClip (s : gS) : gA := (Settings_cutClip_2L gFu) 0 s
-- BandPress$Settings.save()V (21,)
def Settings_save (s : gS) : gA := if 4 ≤ w32 (s 21 6) then (some (0, s)) else (g_le ((s 21 6) + 1) fun v2 => if 0 ≤ w32 (s 21 6) ∧ w32 (s 21 6) < 5 then if 0 ≤ w32 v2 ∧ w32 v2 < 5 then g_le (g_up s 22 (w32 v2).toNat (s 22 (w32 (s 21 6)).toNat)) fun s6 => if 0 ≤ w32 (s6 21 6) ∧ w32 (s6 21 6) < 5 then if 0 ≤ w32 v2 ∧ w32 v2 < 5 then g_le (g_up s6 23 (w32 v2).toNat (s6 23 (w32 (s6 21 6)).toNat)) fun s10 => if 0 ≤ w32 (s10 21 6) ∧ w32 (s10 21 6) < 5 then if 0 ≤ w32 v2 ∧ w32 v2 < 5 then g_le (g_up s10 24 (w32 v2).toNat (s10 24 (w32 (s10 21 6)).toNat)) fun s14 => if 0 ≤ w32 (s14 21 6) ∧ w32 (s14 21 6) < 5 then if 0 ≤ w32 v2 ∧ w32 v2 < 5 then g_le (g_up s14 25 (w32 v2).toNat (s14 25 (w32 (s14 21 6)).toNat)) fun s18 => if 0 ≤ w32 (s18 21 6) ∧ w32 (s18 21 6) < 5 then if 0 ≤ w32 v2 ∧ w32 v2 < 5 then g_le (g_up s18 26 (w32 v2).toNat (s18 26 (w32 (s18 21 6)).toNat)) fun s22 => if (0 : Int) ≤ w32 ((s22 21 6) * 48) ∧ (0 : Int) ≤ w32 (v2 * 48) ∧ (0 : Int) ≤ 48 ∧ (w32 ((s22 21 6) * 48) : Int) + 48 ≤ 240 ∧ (w32 (v2 * 48) : Int) + 48 ≤ 240 then g_le (g_cp s22 27 27 (w32 ((s22 21 6) * 48)).toNat (w32 (v2 * 48)).toNat 48) fun s25 => g_le (g_up s25 21 6 v2) fun s27 => (some (0, s27)) else none else none else none else none else none else none else none else none else none else none else none)
-- BandPress$Settings.move(II)V (21,)
def Settings_move (a1 a2 : Int) (s : gS) : gA := g_bi (Settings_placedX a1 s) fun r1 s2 => if 0 ≤ w32 (s 21 6) ∧ w32 (s 21 6) < 5 then g_le (g_up s2 24 (w32 (s 21 6)).toNat r1) fun s5 => g_bi (Settings_placedY a2 s5) fun r7 s8 => if 0 ≤ w32 (s5 21 6) ∧ w32 (s5 21 6) < 5 then g_le (g_up s8 25 (w32 (s5 21 6)).toNat r7) fun s11 => (some (0, s11)) else none else none
-- BandPress$Settings.stretch(II)V (21,)
def Settings_stretch (a1 a2 : Int) (s : gS) : gA := g_bi (Settings_stretchedX a1 s) fun r1 s2 => if 0 ≤ w32 (s 21 6) ∧ w32 (s 21 6) < 5 then g_le (g_up s2 22 (w32 (s 21 6)).toNat r1) fun s5 => g_bi (Settings_stretchedY a2 s5) fun r7 s8 => if 0 ≤ w32 (s5 21 6) ∧ w32 (s5 21 6) < 5 then g_le (g_up s8 23 (w32 (s5 21 6)).toNat r7) fun s11 => (some (0, s11)) else none else none
-- java/util/Arrays.fill([JJ)V (36,)
def Arrays_fill_6 (k6 : Int → Int → Int → gS → gA) (l1 l3 l4 : Int) (s : gS) : gA := if w32 l4 ≤ w32 l3 then (some (0, s)) else (if 0 ≤ w32 l3 ∧ w32 l3 < 48 then g_le (g_up s 36 (w32 l3).toNat l1) fun s3 => (k6 l1 (l3 + 1) l4 s3) else none)
def Arrays_fill_6L : Nat → Int → Int → Int → gS → gA
  | 0 => fun _ _ _ _ => none
  | n + 1 => Arrays_fill_6 (Arrays_fill_6L n)
def Arrays_fill (a1 : Int) (s : gS) : gA := (Arrays_fill_6L gFu) a1 0 48 s
-- BandPress$Pages.clean()V (34,)
def Pages_clean (s : gS) : gA := g_bi (Arrays_fill 0 s) fun _ s2 => g_le (g_up s2 34 3 0) fun s4 => (some (0, s4))
-- BandPress$Pages.keep()V (34,)
def Pages_keep (s : gS) : gA := if 8 ≤ w32 (s 34 2) then (some (0, s)) else (if (0 : Int) ≤ 0 ∧ (0 : Int) ≤ w32 ((s 34 2) * 48) ∧ (0 : Int) ≤ 48 ∧ (0 : Int) + 48 ≤ 48 ∧ (w32 ((s 34 2) * 48) : Int) + 48 ≤ 384 then g_le (g_cp s 36 35 0 (w32 ((s 34 2) * 48)).toNat 48) fun s3 => g_le (g_up s3 34 2 ((s3 34 2) + 1)) fun s5 => g_bi (Pages_clean s5) fun _ s8 => (some (0, s8)) else none)
-- BandPress$Settings.setGrey(I)V (21,)
def Settings_setGrey (a1 : Int) (s : gS) : gA := if 0 ≤ w32 (s 21 6) ∧ w32 (s 21 6) < 5 then g_le (g_up s 26 (w32 (s 21 6)).toNat a1) fun s2 => (some (0, s2)) else none
-- BandPress$Pages.dots(II)J ()
def Pages_dots_35 (k5 : Int → Int → Int → Int → gS → gA) (l0 l1 l4 t0 t1 : Int) (s : gS) : gA := g_le (l_or t0 t1) fun v5 => (k5 l0 l1 v5 (l4 + 1) s)
def Pages_dots_5 (k5 : Int → Int → Int → Int → gS → gA) (l0 l1 l2 l4 : Int) (s : gS) : gA := if 4 ≤ w32 l4 then (some (l2 * 1229782938247303441, s)) else (if 0 ≤ w32 (((i_rem l0 4) * 4) + l4) ∧ w32 (((i_rem l0 4) * 4) + l4) < 16 then (if w32 l1 ≤ w32 (g_ce (w32 (((i_rem l0 4) * 4) + l4)).toNat) then ((Pages_dots_35 k5) l0 l1 l4 (l_shl l2 1) 0 s) else ((Pages_dots_35 k5) l0 l1 l4 (l_shl l2 1) 1 s)) else none)
def Pages_dots_5L : Nat → Int → Int → Int → Int → gS → gA
  | 0 => fun _ _ _ _ _ => none
  | n + 1 => Pages_dots_5 (Pages_dots_5L n)
def Pages_dots (a0 a1 : Int) (s : gS) : gA := (Pages_dots_5L gFu) a0 a1 0 0 s
-- BandPress$Pages.paint([JLBandPress$Settings;)V (34, 16, 21)
def Pages_paint_16 (k16 : Int → gS → gA) (l3 : Int) (s : gS) : gA := if 48 ≤ w32 l3 then (some (0, s)) else (if 0 ≤ w32 l3 ∧ w32 l3 < 48 then g_bi (Settings_clipLine l3 s) fun r8 s9 => g_le (l_and (s 16 (w32 l3).toNat) r8) fun v11 => if 0 ≤ w32 l3 ∧ w32 l3 < 48 then g_bi (Settings_greyNow s9) fun r14 s15 => g_bi (Pages_dots l3 r14 s15) fun r17 s18 => if 0 ≤ w32 l3 ∧ w32 l3 < 48 then g_le (g_up s18 36 (w32 l3).toNat (l_or (l_and (s9 36 (w32 l3).toNat) (l_xor v11 (-1))) (l_and v11 r17))) fun s21 => (k16 (l3 + 1) s21) else none else none else none)
def Pages_paint_16L : Nat → Int → gS → gA
  | 0 => fun _ _ => none
  | n + 1 => Pages_paint_16 (Pages_paint_16L n)
def Pages_paint (s : gS) : gA := g_bi (Pages_marksOf s) fun r1 s2 => g_le (g_up s2 34 3 ((s 34 3) + r1)) fun s4 => ((Pages_paint_16L gFu) 0 s4)
-- BandPress$Settings.takeBack()V (21,)
def Settings_takeBack (s : gS) : gA := if w32 (s 21 6) ≤ 0 then (some (0, s)) else (g_le (g_up s 21 6 ((s 21 6) - 1)) fun s2 => (some (0, s2)))
-- BandPress$Job.use(I)V (5,)
def Job_use_260 (l1 : Int) (s : gS) : gA := g_bi (Job_needs l1 s) fun r26 s27 => g_bi (Values_drop r26 s27) fun _ s30 => (some (0, s30))
def Job_use_92 (l1 : Int) (s : gS) : gA := g_bi (Pages_paint s) fun _ s21 => g_bi (Path_clear s21) fun _ s24 => (Job_use_260 l1 s24)
def Job_use_253 (l1 : Int) (s : gS) : gA := g_bi (Settings_takeBack s) fun _ s39 => (Job_use_260 l1 s39)
def Job_use (a1 : Int) (s : gS) : gA := if w32 a1 = 69 then (Job_use_92 a1 s) else (if w32 a1 = 70 then (Job_use_92 a1 s) else (if w32 a1 = 71 then (g_bi (Values_peek 0 s) fun r32 s33 => g_bi (Settings_setGrey r32 s33) fun _ s36 => (Job_use_260 a1 s36)) else (if w32 a1 = 72 then (Job_use_253 a1 s) else (if w32 a1 = 73 then (Job_use_253 a1 s) else (if w32 a1 = 74 then (Job_use_253 a1 s) else (if w32 a1 = 75 then (Job_use_253 a1 s) else (if w32 a1 = 76 then (Job_use_253 a1 s) else (if w32 a1 = 77 then (Job_use_253 a1 s) else (if w32 a1 = 78 then (Job_use_253 a1 s) else (if w32 a1 = 79 then (Job_use_253 a1 s) else (if w32 a1 = 80 then (g_bi (Pages_keep s) fun _ s42 => g_bi (Path_clear s42) fun _ s45 => (Job_use_260 a1 s45)) else (if w32 a1 = 81 then (Job_use_253 a1 s) else (if w32 a1 = 82 then (Job_use_253 a1 s) else (if w32 a1 = 83 then (g_bi (Values_peek 1 s) fun r47 s48 => g_bi (Values_peek 0 s48) fun r50 s51 => g_bi (Settings_stretch r47 r50 s51) fun _ s54 => (Job_use_260 a1 s54)) else (if w32 a1 = 84 then (g_bi (Values_peek 1 s) fun r56 s57 => g_bi (Values_peek 0 s57) fun r59 s60 => g_bi (Settings_move r56 r59 s60) fun _ s63 => (Job_use_260 a1 s63)) else (if w32 a1 = 85 then (g_bi (Settings_save s) fun _ s66 => (Job_use_260 a1 s66)) else (if w32 a1 = 86 then (Job_use_253 a1 s) else (if w32 a1 = 87 then (g_bi (Filler_trace 0 s) fun _ s69 => g_bi (Settings_cutClip s69) fun _ s72 => g_bi (Path_clear s72) fun _ s75 => (Job_use_260 a1 s75)) else (Job_use_253 a1 s)))))))))))))))))))
-- BandPress$Job.reckon(I)V (5,)
def Job_reckon_43 (l1 l2 l3 l4 : Int) (s : gS) : gA := if w32 l1 = 68 then (g_bi (Values_push l2 s) fun _ s16 => (some (0, s16))) else (if w32 l1 = 79 then (some (0, s)) else (if w32 l1 = 88 then (g_bi (Values_push l2 s) fun _ s19 => g_bi (Values_push l3 s19) fun _ s22 => (some (0, s22))) else (if w32 l1 = 126 then (g_bi (Values_push (-l2) s) fun _ s25 => (some (0, s25))) else (g_bi (Values_push l4 s) fun _ s28 => (some (0, s28))))))
def Job_reckon (a1 : Int) (s : gS) : gA := g_bi (Values_peek 0 s) fun r1 s2 => g_bi (Values_peek 1 s2) fun r4 s5 => g_bi (Job_resultOf a1 s5) fun r7 s8 => (if w32 a1 = 68 then (Job_reckon_43 a1 r1 r4 r7 s8) else (g_bi (Job_needs a1 s8) fun r30 s31 => g_bi (Values_drop r30 s31) fun _ s34 => (Job_reckon_43 a1 r1 r4 r7 s34)))
-- BandPress$Job.perform(II)V (5,)
def Job_perform (a1 a2 : Int) (s : gS) : gA := g_bi (B_isDigit a1 s) fun r1 s2 => (if w32 r1 = 0 then (g_bi (B_isLetter a1 s2) fun r5 s6 => (if w32 r5 = 0 then (if w32 a1 = 123 then (g_bi (Values_push (2000000 + a2) s6) fun _ s42 => (some (0, s42))) else (if w32 a1 = 58 then (g_bi (Text_sign (a2 + 1) s6) fun r35 s36 => g_bi (Job_assign r35 s36) fun _ s39 => (some (0, s39))) else (g_bi (B_isOneOf a1 s6) fun r11 s12 => (if w32 r11 = 0 then (g_bi (B_isOneOf_b a1 s12) fun r15 s16 => (if w32 r15 = 0 then (g_bi (B_isOneOf_c a1 s16) fun r19 s20 => (if w32 r19 = 0 then (g_bi (Job_reckon a1 s20) fun _ s24 => (some (0, s24))) else (g_bi (Job_use a1 s20) fun _ s27 => (some (0, s27))))) else (g_bi (Job_draw a1 s16) fun _ s30 => (some (0, s30))))) else (g_bi (Job_control a1 s12) fun _ s33 => (some (0, s33))))))) else (if 0 ≤ w32 (a1 - 97) ∧ w32 (a1 - 97) < 26 then g_bi (Values_push (s6 20 (w32 (a1 - 97)).toNat) s6) fun _ s46 => (some (0, s46)) else none))) else (g_bi (Text_number a2 s2) fun r48 s49 => g_bi (Values_push r48 s49) fun _ s52 => (some (0, s52))))
-- BandPress$Calls.settle(LBandPress$Text;)V (10, 6)
def Calls_settle_5 (k5 : Int → gS → gA) (l2 : Int) (s : gS) : gA := if w32 l2 < 0 then (some (0, s)) else (if 0 ≤ w32 l2 ∧ w32 l2 < 21 then if 0 ≤ w32 l2 ∧ w32 l2 < 21 then g_bi (Text_skipBlanks (s 11 (w32 l2).toNat) (s 13 (w32 l2).toNat) s) fun r6 s7 => if 0 ≤ w32 l2 ∧ w32 l2 < 21 then g_le (g_up s7 11 (w32 l2).toNat r6) fun s10 => if 0 ≤ w32 l2 ∧ w32 l2 < 21 then if 0 ≤ w32 l2 ∧ w32 l2 < 21 then (if w32 (s10 13 (w32 l2).toNat) ≤ w32 (s10 11 (w32 l2).toNat) then (if 0 ≤ w32 l2 ∧ w32 l2 < 21 then (if w32 (s10 14 (w32 l2).toNat) ≤ 1 then (g_le (g_up s10 10 4 ((s10 10 4) - 1)) fun s17 => (k5 (l2 + (-1)) s17)) else (if 0 ≤ w32 l2 ∧ w32 l2 < 21 then if 0 ≤ w32 l2 ∧ w32 l2 < 21 then g_le (g_up s10 14 (w32 l2).toNat ((s10 14 (w32 l2).toNat) - 1)) fun s21 => if 0 ≤ w32 l2 ∧ w32 l2 < 21 then if 0 ≤ w32 l2 ∧ w32 l2 < 21 then g_bi (Text_skipBlanks (s21 12 (w32 l2).toNat) (s21 13 (w32 l2).toNat) s21) fun r25 s26 => if 0 ≤ w32 l2 ∧ w32 l2 < 21 then g_le (g_up s26 11 (w32 l2).toNat r25) fun s29 => (some (0, s29)) else none else none else none else none else none)) else none) else (some (0, s10))) else none else none else none else none else none)
def Calls_settle_5L : Nat → Int → gS → gA
  | 0 => fun _ _ => none
  | n + 1 => Calls_settle_5 (Calls_settle_5L n)
def Calls_settle (s : gS) : gA := g_le (s 10 4) fun v1 => ((Calls_settle_5L gFu) v1 s)
-- BandPress$Job.step()V (5,)
def Job_step (s : gS) : gA := g_bi (Calls_place s) fun r1 s2 => g_bi (Text_sign r1 s2) fun r4 s5 => g_bi (Job_errorOf r4 s5) fun r7 s8 => g_le (g_up s8 5 9 r7) fun s10 => (if w32 (s10 5 9) = 0 then (g_bi (Text_behind r1 s10) fun r13 s14 => g_bi (Calls_goTo r13 s14) fun _ s17 => g_bi (Job_perform r4 r1 s17) fun _ s20 => g_le (g_up s20 5 11 ((s20 5 11) + 1)) fun s22 => g_bi (Calls_settle s22) fun _ s25 => g_bi (Job_endIfOver s25) fun _ s28 => (some (0, s28))) else (g_le (g_up s10 5 10 r1) fun s30 => g_le (g_up s30 5 8 2) fun s32 => (some (0, s32))))
-- BandPress$Order.complete(I)V (37,)
def Order_complete_28 (t1 : Int) (s : gS) : gA := g_le (g_up s 37 7 t1) fun s4 => g_bi (Math_min1 ((s4 37 4) * (s4 37 7)) 32 s4) fun r6 s7 => g_le (g_up s7 37 3 r6) fun s9 => (some (0, s9))
def Order_complete (a1 : Int) (s : gS) : gA := g_le (g_up s 37 6 a1) fun s1 => (if w32 (s1 37 5) = 0 then (Order_complete_28 (s1 37 6) s1) else (Order_complete_28 (i_div ((s1 37 6) + 1) 2) s1))
-- BandPress.run(I)I (0,)
def B_run_30 (s : gS) : gT := some (2, 0, s)
def B_run_47 (k47 : Int → Int → gS → gT) (k75 : gS → gT) (l1 l2 : Int) (s : gS) : gT := if w32 l1 ≤ w32 l2 then (k75 s) else (g_bi (Job_isUnderWay s) fun r11 s12 => (if w32 r11 = 0 then (k75 s12) else (g_bi (Job_step s12) fun _ s16 => (k47 l1 (l2 + 1) s16))))
def B_run_47L (k75 : gS → gT) : Nat → Int → Int → gS → gT
  | 0 => fun _ _ _ => none
  | n + 1 => B_run_47 (B_run_47L k75 n) k75
def B_run_75 (s : gS) : gT := g_bi (Job_isUnderWay s) fun r18 s19 => (if w32 r18 = 0 then (g_bi (Order_complete (s19 34 2) s19) fun _ s23 => (if w32 (s23 5 9) = 0 then (some (0, 1, s23)) else (some (0, 2, s23)))) else (some (0, 0, s19)))
def B_run (a1 : Int) (s : gS) : gT := g_bi (Job_isUnderWay s) fun r1 s2 => (if w32 r1 = 0 then (some (1, 0, s2)) else (if w32 a1 < 1 then (B_run_30 s2) else (if w32 a1 ≤ 5000 then (g_bi (Job_endIfOver s2) fun _ s8 => ((B_run_47L B_run_75 gFu) a1 0 s8)) else (B_run_30 s2))))
-- BandPress$Machine.isSection(I)Z ()
def Machine_isSection (a0 : Int) (s : gS) : gA := if w32 a0 < 0 then (some (0, s)) else (if 4 ≤ w32 a0 then (some (0, s)) else (some (1, s)))
-- BandPress.section(II)I (0,)
def B_section (a1 a2 : Int) (s : gS) : gA := g_bi (Machine_isSection a1 s) fun r1 s2 => (if w32 r1 = 0 then (some ((-1), s2)) else (if w32 a2 = 0 then (if 0 ≤ w32 a1 ∧ w32 a1 < 4 then (some (s2 41 (w32 a1).toNat, s2)) else none) else (if w32 a2 = 1 then (if 0 ≤ w32 a1 ∧ w32 a1 < 4 then (some (s2 42 (w32 a1).toNat, s2)) else none) else (if w32 a2 = 2 then (if 0 ≤ w32 a1 ∧ w32 a1 < 4 then (if w32 (s2 43 (w32 a1).toNat) = 0 then (some (0, s2)) else (some (1, s2))) else none) else (some ((-1), s2))))))
-- java/lang/String.isLatin1()Z (1003,)
def String_isLatin1_d (s : gS) : gA := some (1, s)
-- java/lang/String.coder()B (1003,)
def String_coder_d (s : gS) : gA := some (0, s)
-- java/lang/String.length()I (1003,)
def String_length_d (s : gS) : gA := some (i_shr 15 0, s)
-- java/lang/StringLatin1.indexOfChar([BIII)I (2003,)
def StringLatin1_indexOfChar_d_7 (k7 : Int → Int → Int → gS → gA) (l3 l4 l5 : Int) (s : gS) : gA := if w32 l3 ≤ w32 l5 then (some ((-1), s)) else (if 0 ≤ w32 l5 ∧ w32 l5 < 15 then (if w32 (g_by 3 (w32 l5).toNat) = w32 l4 then (some (l5, s)) else (k7 l3 l4 (l5 + 1) s)) else none)
def StringLatin1_indexOfChar_d_7L : Nat → Int → Int → Int → gS → gA
  | 0 => fun _ _ _ _ => none
  | n + 1 => StringLatin1_indexOfChar_d_7 (StringLatin1_indexOfChar_d_7L n)
def StringLatin1_indexOfChar_d (a1 a2 a3 : Int) (s : gS) : gA := g_le (i_2b a1) fun v1 => ((StringLatin1_indexOfChar_d_7L gFu) a3 v1 a2 s)
-- java/lang/StringLatin1.indexOf([BIII)I (2003,)
def StringLatin1_indexOf_d (a1 a2 a3 : Int) (s : gS) : gA := g_bi (StringLatin1_canEncode a1 s) fun r1 s2 => (if w32 r1 = 0 then (some ((-1), s2)) else (g_bi (Math_max a2 0 s2) fun r5 s6 => g_bi (Math_min1 a3 15 s6) fun r8 s9 => (if w32 r5 < w32 r8 then (g_bi (StringLatin1_indexOfChar_d a1 r5 r8 s9) fun r12 s13 => (some (r12, s13))) else (some ((-1), s9)))))
-- java/lang/String.indexOf(II)I (1003,)
def String_indexOf1_d (a1 a2 : Int) (s : gS) : gA := g_bi (String_length_d s) fun r1 s2 => g_bi (StringLatin1_indexOf_d a1 a2 r1 s2) fun r4 s5 => (some (r4, s5))
-- java/lang/String.indexOf(I)I (1003,)
def String_indexOf_d (a1 : Int) (s : gS) : gA := g_bi (String_indexOf1_d a1 0 s) fun r1 s2 => (some (r1, s2))
-- BandPress.isOneOf(Ljava/lang/String;I)Z (1003,)
def B_isOneOf_d (a1 : Int) (s : gS) : gA := g_bi (String_indexOf_d (i_2c a1) s) fun r1 s2 => (if w32 r1 < 0 then (some (0, s2)) else (some (1, s2)))
-- BandPress$Text.isWord(I)Z ()
def Text_isWord (a0 : Int) (s : gS) : gA := g_bi (B_isDigit a0 s) fun r1 s2 => (if w32 r1 = 0 then (g_bi (B_isLetter a0 s2) fun r5 s6 => (if w32 r5 = 0 then (g_bi (B_isOneOf_d a0 s6) fun r9 s10 => (if w32 r9 = 0 then (g_bi (B_isOneOf a0 s10) fun r13 s14 => (if w32 r13 = 0 then (g_bi (B_isOneOf_b a0 s14) fun r17 s18 => (if w32 r17 = 0 then (g_bi (B_isOneOf_c a0 s18) fun r21 s22 => (if w32 r21 = 0 then (some (0, s22)) else (some (1, s22)))) else (some (1, s18)))) else (some (1, s14)))) else (some (1, s10)))) else (some (1, s6)))) else (some (1, s2)))
-- BandPress$Text.fault()I (1,)
def Text_fault_123 (k9 : Int → Int → Int → Int → gS → gA) (l1 l2 l4 t0 : Int) (s : gS) : gA := k9 l1 l2 t0 (l4 + 1) s
def Text_fault_86 (k9 : Int → Int → Int → Int → gS → gA) (l1 l2 l4 l5 t0 : Int) (s : gS) : gA := if w32 t0 = 0 then (some (l4, s)) else (if 5 < w32 l2 then (some (l4, s)) else (if w32 l1 < 0 then (some (l4, s)) else (if w32 l1 ≤ 8 then (if w32 l5 = 58 then ((Text_fault_123 k9) l1 l2 l4 1 s) else ((Text_fault_123 k9) l1 l2 l4 0 s)) else (some (l4, s)))))
def Text_fault_67 (k9 : Int → Int → Int → Int → gS → gA) (l2 l3 l4 l5 t0 t1 : Int) (s : gS) : gA := g_le (t0 + t1) fun v11 => (if w32 l3 = 0 then (g_bi (Text_isWord l5 s) fun r14 s15 => ((Text_fault_86 k9) v11 l2 l4 l5 r14 s15)) else (g_bi (B_isLetter l5 s) fun r22 s23 => ((Text_fault_86 k9) v11 l2 l4 l5 r22 s23)))
def Text_fault_42 (k9 : Int → Int → Int → Int → gS → gA) (l1 l3 l4 l5 t0 : Int) (s : gS) : gA := if w32 l5 = 123 then ((Text_fault_67 k9) t0 l3 l4 l5 l1 1 s) else (if w32 l5 = 125 then ((Text_fault_67 k9) t0 l3 l4 l5 l1 (-1) s) else ((Text_fault_67 k9) t0 l3 l4 l5 l1 0 s))
def Text_fault_9 (k9 : Int → Int → Int → Int → gS → gA) (k130 : Int → Int → gS → gA) (l1 l2 l3 l4 : Int) (s : gS) : gA := if w32 (s 1 3) ≤ w32 l4 then (k130 l1 l3 s) else (if 0 ≤ w32 l4 ∧ w32 l4 < 300 then g_le (s 2 (w32 l4).toNat) fun v3 => g_bi (B_isDigit v3 s) fun r5 s6 => (if w32 r5 = 0 then ((Text_fault_42 k9) l1 l3 l4 v3 0 s6) else ((Text_fault_42 k9) l1 l3 l4 v3 (l2 + 1) s6)) else none)
def Text_fault_9L (k130 : Int → Int → gS → gA) : Nat → Int → Int → Int → Int → gS → gA
  | 0 => fun _ _ _ _ _ => none
  | n + 1 => Text_fault_9 (Text_fault_9L k130 n) k130
def Text_fault_130 (l1 l3 : Int) (s : gS) : gA := if 0 < w32 l1 then (some (s 1 3, s)) else (if w32 l3 = 0 then (some ((-1), s)) else (some (s 1 3, s)))
def Text_fault (s : gS) : gA := (Text_fault_9L Text_fault_130 gFu) 0 0 0 0 s
-- BandPress$Text.copy(LBandPress$Text;)V (6, 1)
def Text_copy_97 (k29 : Int → Int → gS → gA) (l2 l3 : Int) (s : gS) : gA := k29 l2 (l3 + 1) s
def Text_copy_67 (k29 : Int → Int → gS → gA) (l2 l3 : Int) (s : gS) : gA := if 0 ≤ w32 l3 ∧ w32 l3 < 300 then (if w32 (s 7 (w32 l3).toNat) = 125 then (if w32 l2 ≤ 0 then ((Text_copy_97 k29) l2 l3 s) else (if 0 ≤ w32 (l2 + (-1)) ∧ w32 (l2 + (-1)) < 8 then if 0 ≤ w32 (s 9 (w32 (l2 + (-1))).toNat) ∧ w32 (s 9 (w32 (l2 + (-1))).toNat) < 300 then g_le (g_up s 8 (w32 (s 9 (w32 (l2 + (-1))).toNat)).toNat l3) fun s14 => ((Text_copy_97 k29) (l2 + (-1)) l3 s14) else none else none)) else ((Text_copy_97 k29) l2 l3 s)) else none
def Text_copy_29 (k29 : Int → Int → gS → gA) (l2 l3 : Int) (s : gS) : gA := if w32 (s 6 3) ≤ w32 l3 then (some (0, s)) else (if 0 ≤ w32 l3 ∧ w32 l3 < 300 then (if w32 (s 7 (w32 l3).toNat) = 123 then (if 8 ≤ w32 l2 then ((Text_copy_67 k29) l2 l3 s) else (if 0 ≤ w32 l2 ∧ w32 l2 < 8 then g_le (g_up s 9 (w32 l2).toNat l3) fun s18 => ((Text_copy_97 k29) (l2 + 1) l3 s18) else none)) else ((Text_copy_67 k29) l2 l3 s)) else none)
def Text_copy_29L : Nat → Int → Int → gS → gA
  | 0 => fun _ _ _ => none
  | n + 1 => Text_copy_29 (Text_copy_29L n)
def Text_copy (s : gS) : gA := g_le (g_up s 6 3 (s 1 3)) fun s1 => if (0 : Int) ≤ 0 ∧ (0 : Int) ≤ 0 ∧ (0 : Int) ≤ w32 (s1 6 3) ∧ (0 : Int) + w32 (s1 6 3) ≤ 300 ∧ (0 : Int) + w32 (s1 6 3) ≤ 300 then g_le (g_cp s1 2 7 0 0 (w32 (s1 6 3)).toNat) fun s4 => ((Text_copy_29L gFu) 0 0 s4) else none
-- BandPress$Calls.begin(LBandPress$Text;)V (10, 6)
def Calls_begin (s : gS) : gA := g_le (g_up s 10 4 (-1)) fun s1 => g_bi (Calls_push 0 (s1 6 3) 0 s1) fun _ s4 => g_bi (Calls_settle s4) fun _ s7 => (some (0, s7))
-- java/util/Arrays.fill([II)V (20,)
def Arrays_fill1_5 (k5 : Int → Int → Int → gS → gA) (l1 l2 l3 : Int) (s : gS) : gA := if w32 l3 ≤ w32 l2 then (some (0, s)) else (if 0 ≤ w32 l2 ∧ w32 l2 < 26 then g_le (g_up s 20 (w32 l2).toNat l1) fun s3 => (k5 l1 (l2 + 1) l3 s3) else none)
def Arrays_fill1_5L : Nat → Int → Int → Int → gS → gA
  | 0 => fun _ _ _ _ => none
  | n + 1 => Arrays_fill1_5 (Arrays_fill1_5L n)
def Arrays_fill1 (a1 : Int) (s : gS) : gA := (Arrays_fill1_5L gFu) a1 0 26 s
-- java/util/Arrays.fill([JJ)V (27,)
def Arrays_fill_b_6 (k6 : Int → Int → Int → gS → gA) (l1 l3 l4 : Int) (s : gS) : gA := if w32 l4 ≤ w32 l3 then (some (0, s)) else (if 0 ≤ w32 l3 ∧ w32 l3 < 240 then g_le (g_up s 27 (w32 l3).toNat l1) fun s3 => (k6 l1 (l3 + 1) l4 s3) else none)
def Arrays_fill_b_6L : Nat → Int → Int → Int → gS → gA
  | 0 => fun _ _ _ _ => none
  | n + 1 => Arrays_fill_b_6 (Arrays_fill_b_6L n)
def Arrays_fill_b (a1 : Int) (s : gS) : gA := (Arrays_fill_b_6L gFu) a1 0 240 s
-- BandPress$Settings.reset()V (21,)
def Settings_reset (s : gS) : gA := g_le (g_up s 21 6 0) fun s1 => g_le (g_up s1 22 0 16) fun s3 => g_le (g_up s3 23 0 16) fun s5 => g_le (g_up s5 24 0 0) fun s7 => g_le (g_up s7 25 0 0) fun s9 => g_le (g_up s9 26 0 16) fun s11 => g_bi (Arrays_fill_b (-1) s11) fun _ s14 => (some (0, s14))
-- BandPress$Pages.clear()V (34,)
def Pages_clear (s : gS) : gA := g_le (g_up s 34 2 0) fun s1 => g_bi (Pages_clean s1) fun _ s4 => (some (0, s4))
-- BandPress$Job.begin(LBandPress$Text;I)V (5, 1)
def Job_begin (a2 : Int) (s : gS) : gA := g_bi (Text_copy s) fun _ s2 => g_bi (Calls_begin s2) fun _ s5 => g_bi (Values_drop 32 s5) fun _ s8 => g_bi (Arrays_fill1 0 s8) fun _ s11 => g_bi (Settings_reset s11) fun _ s14 => g_bi (Path_clear s14) fun _ s17 => g_bi (Pages_clear s17) fun _ s20 => g_le (g_up s20 5 8 1) fun s22 => g_le (g_up s22 5 9 0) fun s24 => g_le (g_up s24 5 10 0) fun s26 => g_le (g_up s26 5 11 0) fun s28 => g_le (g_up s28 5 12 a2) fun s30 => (some (0, s30))
-- BandPress$Order.begin(IZ)V (37,)
def Order_begin_32 (k32 : Int → gS → gA) (l3 : Int) (s : gS) : gA := if 32 ≤ w32 l3 then (some (0, s)) else (if 0 ≤ w32 l3 ∧ w32 l3 < 32 then g_le (g_up s 39 (w32 l3).toNat (i_nar .boolean 0)) fun s16 => (k32 (l3 + 1) s16) else none)
def Order_begin_32L : Nat → Int → gS → gA
  | 0 => fun _ _ => none
  | n + 1 => Order_begin_32 (Order_begin_32L n)
def Order_begin (a1 a2 : Int) (s : gS) : gA := g_le (g_up s 37 4 a1) fun s1 => if w32 a2 = 0 ∨ w32 a2 = 1 then g_le (g_up s1 37 5 a2) fun s4 => g_le (g_up s4 37 6 0) fun s6 => g_le (g_up s6 37 7 0) fun s8 => g_le (g_up s8 37 3 0) fun s10 => g_le (g_up s10 37 2 0) fun s12 => ((Order_begin_32L gFu) 0 s12) else none
-- BandPress$Text.clear()V (1,)
def Text_clear (s : gS) : gA := g_le (g_up s 1 3 0) fun s1 => (some (0, s1))
-- BandPress.start(IZI)I (0,)
def B_start_82 (l4 : Int) (s : gS) : gA := g_bi (Text_clear s) fun _ s18 => (if w32 l4 = (-1) then (some (0, s18)) else (some (l4 + 1, s18)))
def B_start (a1 a2 a3 : Int) (s : gS) : gA := if w32 a1 < 1 then (some ((-1), s)) else (if 4 < w32 a1 then (some ((-1), s)) else (if w32 a3 < 1 then (some ((-1), s)) else (if w32 a3 ≤ 20000 then (g_bi (Job_isUnderWay s) fun r5 s6 => (if w32 r5 = 0 then (g_bi (Order_left s6) fun r9 s10 => (if w32 r9 ≤ 0 then (g_bi (Text_fault s10) fun r13 s14 => (if w32 r13 = (-1) then (g_bi (Job_begin a3 s14) fun _ s22 => g_bi (Order_begin a1 a2 s22) fun _ s25 => (B_start_82 r13 s25)) else (B_start_82 r13 s14))) else (some ((-1), s10)))) else (some ((-1), s6)))) else (some ((-1), s)))))
-- BandPress.stick(IZ)Z (0,)
def B_stick (a1 a2 : Int) (s : gS) : gA := g_bi (Machine_isSection a1 s) fun r1 s2 => (if w32 r1 = 0 then (some (0, s2)) else (if 0 ≤ w32 a1 ∧ w32 a1 < 4 then g_le (g_up s2 43 (w32 a1).toNat (i_nar .boolean a2)) fun s6 => (some (1, s6)) else none))
-- BandPress$Machine.empty(I)V (40,)
def Machine_empty (a1 : Int) (s : gS) : gA := if 0 ≤ w32 a1 ∧ w32 a1 < 4 then g_le (g_up s 41 (w32 a1).toNat (-1)) fun s2 => if 0 ≤ w32 a1 ∧ w32 a1 < 4 then g_le (g_up s2 42 (w32 a1).toNat 0) fun s5 => (some (0, s5)) else none else none
-- BandPress$Machine.remove(I)Z (40,)
def Machine_remove_26 (l1 : Int) (s : gS) : gA := g_bi (Machine_empty l1 s) fun _ s5 => (some (1, s5))
def Machine_remove (a1 : Int) (s : gS) : gA := if 0 ≤ w32 a1 ∧ w32 a1 < 4 then (if w32 (s 41 (w32 a1).toNat) = (-1) then (some (0, s)) else (if w32 (s 40 8) = 0 then (if w32 (s 40 11) = 0 then (some (0, s)) else (Machine_remove_26 a1 s)) else (Machine_remove_26 a1 s))) else none
-- BandPress.take(I)Z (0,)
def B_take (a1 : Int) (s : gS) : gA := g_bi (Machine_isSection a1 s) fun r1 s2 => (if w32 r1 = 0 then (some (0, s2)) else (g_bi (Machine_remove a1 s2) fun r5 s6 => (if w32 r5 = 0 then (some (0, s6)) else (some (1, s6)))))
-- BandPress$Machine.anySticks()Z (40,)
def Machine_anySticks_2 (k2 : Int → gS → gA) (l1 : Int) (s : gS) : gA := if 4 ≤ w32 l1 then (some (0, s)) else (if 0 ≤ w32 l1 ∧ w32 l1 < 4 then (if w32 (s 43 (w32 l1).toNat) = 0 then (k2 (l1 + 1) s) else (some (1, s))) else none)
def Machine_anySticks_2L : Nat → Int → gS → gA
  | 0 => fun _ _ => none
  | n + 1 => Machine_anySticks_2 (Machine_anySticks_2L n)
def Machine_anySticks (s : gS) : gA := (Machine_anySticks_2L gFu) 0 s
-- java/util/Arrays.fill([II)V (45,)
def Arrays_fill1_b_5 (k5 : Int → Int → Int → gS → gA) (l1 l2 l3 : Int) (s : gS) : gA := if w32 l3 ≤ w32 l2 then (some (0, s)) else (if 0 ≤ w32 l2 ∧ w32 l2 < 4 then g_le (g_up s 45 (w32 l2).toNat l1) fun s3 => (k5 l1 (l2 + 1) l3 s3) else none)
def Arrays_fill1_b_5L : Nat → Int → Int → Int → gS → gA
  | 0 => fun _ _ _ _ => none
  | n + 1 => Arrays_fill1_b_5 (Arrays_fill1_b_5L n)
def Arrays_fill1_b (a1 : Int) (s : gS) : gA := (Arrays_fill1_b_5L gFu) a1 0 4 s
-- BandPress$Machine.ifFree(I)I (40,)
def Machine_ifFree (a1 : Int) (s : gS) : gA := if 0 ≤ w32 a1 ∧ w32 a1 < 4 then (if w32 (s 41 (w32 a1).toNat) = (-1) then (some (a1, s)) else (some ((-1), s))) else none
-- BandPress$Machine.wayFrom(I)I (40,)
def Machine_wayFrom (a1 : Int) (s : gS) : gA := if 0 ≤ w32 a1 ∧ w32 a1 < 4 then (if w32 (s 41 (w32 a1).toNat) = (-1) then (some ((-1), s)) else (if 0 ≤ w32 a1 ∧ w32 a1 < 4 then (if w32 (s 44 (w32 a1).toNat) = 0 then (if w32 a1 = 1 then (g_bi (Machine_ifFree 2 s) fun r8 s9 => (some (r8, s9))) else (if w32 a1 = 2 then (g_bi (Order_sides s) fun r11 s12 => (if w32 (s 42 2) < w32 r11 then (g_bi (Machine_ifFree 3 s12) fun r15 s16 => (some (r15, s16))) else (some (4, s12)))) else (if w32 a1 = 3 then (g_bi (Machine_ifFree 0 s) fun r18 s19 => (some (r18, s19))) else (if w32 (s 40 6) < 80 then (some ((-1), s)) else (g_bi (Machine_ifFree 1 s) fun r22 s23 => (some (r22, s23))))))) else (some ((-1), s))) else none)) else none
-- BandPress$Order.isLeft(I)Z (37,)
def Order_isLeft (a1 : Int) (s : gS) : gA := if w32 a1 < 0 then (some (0, s)) else (if w32 (s 37 3) ≤ w32 a1 then (some (0, s)) else (if 0 ≤ w32 a1 ∧ w32 a1 < 32 then (if w32 (s 39 (w32 a1).toNat) = 0 then (some (1, s)) else (some (0, s))) else none))
-- BandPress$Order.putOut(I)V (37,)
def Order_putOut (a1 : Int) (s : gS) : gA := g_bi (Order_isLeft a1 s) fun r1 s2 => (if w32 r1 = 0 then (some (0, s2)) else (if 32 ≤ w32 (s2 37 2) then (some (0, s2)) else (if 0 ≤ w32 a1 ∧ w32 a1 < 32 then g_le (g_up s2 39 (w32 a1).toNat (i_nar .boolean 1)) fun s7 => if 0 ≤ w32 (s7 37 2) ∧ w32 (s7 37 2) < 32 then g_le (g_up s7 38 (w32 (s7 37 2)).toNat a1) fun s10 => g_le (g_up s10 37 2 ((s10 37 2) + 1)) fun s12 => (some (0, s12)) else none else none)))
-- BandPress$Machine.place(III)V (40,)
def Machine_place (a1 a2 a3 : Int) (s : gS) : gA := if 0 ≤ w32 a1 ∧ w32 a1 < 4 then g_le (g_up s 41 (w32 a1).toNat a2) fun s2 => if 0 ≤ w32 a1 ∧ w32 a1 < 4 then g_le (g_up s2 42 (w32 a1).toNat a3) fun s5 => if 0 ≤ w32 a1 ∧ w32 a1 < 4 then g_le (g_up s5 44 (w32 a1).toNat (i_nar .boolean 1)) fun s8 => (some (0, s8)) else none else none else none
-- BandPress$Machine.move(II)V (40,)
def Machine_move_56 (l1 : Int) (s : gS) : gA := g_bi (Machine_empty l1 s) fun _ s9 => (some (0, s9))
def Machine_move_22 (l1 l2 t0 : Int) (s : gS) : gA := if w32 l2 = 4 then (if 0 ≤ w32 l1 ∧ w32 l1 < 4 then g_bi (Order_putOut (s 41 (w32 l1).toNat) s) fun _ s13 => (Machine_move_56 l1 s13) else none) else (if 0 ≤ w32 l1 ∧ w32 l1 < 4 then g_bi (Machine_place l2 (s 41 (w32 l1).toNat) t0 s) fun _ s6 => (Machine_move_56 l1 s6) else none)
def Machine_move (a1 a2 : Int) (s : gS) : gA := if w32 a1 = 1 then (if 0 ≤ w32 a1 ∧ w32 a1 < 4 then (Machine_move_22 a1 a2 ((s 42 (w32 a1).toNat) + 1) s) else none) else (if 0 ≤ w32 a1 ∧ w32 a1 < 4 then (Machine_move_22 a1 a2 (s 42 (w32 a1).toNat) s) else none)
-- BandPress$Machine.moveFrom(I)V (40,)
def Machine_moveFrom_40 (l1 l2 : Int) (s : gS) : gA := if w32 l2 = (-1) then (some (0, s)) else (if 0 ≤ w32 l1 ∧ w32 l1 < 4 then (if w32 (s 43 (w32 l1).toNat) = 0 then (g_bi (Machine_move l1 l2 s) fun _ s12 => (some (0, s12))) else (some (0, s))) else none)
def Machine_moveFrom_20 (l1 l2 : Int) (s : gS) : gA := if 0 ≤ w32 l1 ∧ w32 l1 < 4 then g_le (g_up s 45 (w32 l1).toNat 0) fun s6 => (Machine_moveFrom_40 l1 l2 s6) else none
def Machine_moveFrom (a1 : Int) (s : gS) : gA := g_bi (Machine_wayFrom a1 s) fun r1 s2 => (if w32 r1 = (-1) then (Machine_moveFrom_20 a1 r1 s2) else (if 0 ≤ w32 a1 ∧ w32 a1 < 4 then (if w32 (s2 43 (w32 a1).toNat) = 0 then (Machine_moveFrom_20 a1 r1 s2) else (if 0 ≤ w32 a1 ∧ w32 a1 < 4 then if 0 ≤ w32 a1 ∧ w32 a1 < 4 then g_le (g_up s2 45 (w32 a1).toNat ((s2 45 (w32 a1).toNat) + 1)) fun s18 => (Machine_moveFrom_40 a1 r1 s18) else none else none)) else none))
-- BandPress$Machine.isInside(I)Z (40,)
def Machine_isInside_2 (k2 : Int → Int → gS → gA) (l1 l2 : Int) (s : gS) : gA := if 4 ≤ w32 l2 then (some (0, s)) else (if 0 ≤ w32 l2 ∧ w32 l2 < 4 then (if w32 (s 41 (w32 l2).toNat) = w32 l1 then (some (1, s)) else (k2 l1 (l2 + 1) s)) else none)
def Machine_isInside_2L : Nat → Int → Int → gS → gA
  | 0 => fun _ _ _ => none
  | n + 1 => Machine_isInside_2 (Machine_isInside_2L n)
def Machine_isInside (a1 : Int) (s : gS) : gA := (Machine_isInside_2L gFu) a1 0 s
-- BandPress$Machine.nextToMake()I (40,)
def Machine_nextToMake_46 (k14 : Int → gS → gA) (l1 : Int) (s : gS) : gA := k14 (l1 + 1) s
def Machine_nextToMake_14 (k14 : Int → gS → gA) (l1 : Int) (s : gS) : gA := if w32 (s 37 3) ≤ w32 l1 then (some ((-1), s)) else (g_bi (Order_isLeft l1 s) fun r6 s7 => (if w32 r6 = 0 then ((Machine_nextToMake_46 k14) l1 s7) else (g_bi (Machine_isInside l1 s7) fun r10 s11 => (if w32 r10 = 0 then (some (l1, s11)) else ((Machine_nextToMake_46 k14) l1 s11)))))
def Machine_nextToMake_14L : Nat → Int → gS → gA
  | 0 => fun _ _ => none
  | n + 1 => Machine_nextToMake_14 (Machine_nextToMake_14L n)
def Machine_nextToMake (s : gS) : gA := g_bi (Order_left s) fun r1 s2 => (if w32 r1 = 0 then (some ((-1), s2)) else ((Machine_nextToMake_14L gFu) 0 s2))
-- BandPress$Machine.feed()V (40,)
def Machine_feed (s : gS) : gA := if w32 (s 40 7) = 0 then (some (0, s)) else (if w32 (s 41 0) = (-1) then (if w32 (s 41 3) = (-1) then (g_bi (Machine_inside s) fun r4 s5 => (if w32 r4 < 2 then (g_bi (Machine_nextToMake s5) fun r8 s9 => (if w32 r8 = (-1) then (some (0, s9)) else (g_le (g_up s9 40 7 ((s9 40 7) - 1)) fun s12 => g_bi (Machine_place 0 r8 0 s12) fun _ s15 => (some (0, s15))))) else (some (0, s5)))) else (some (0, s))) else (some (0, s)))
-- BandPress$Machine.moveAll()V (40,)
def Machine_moveAll_2 (k2 : Int → gS → gA) (k20 : gS → gA) (l1 : Int) (s : gS) : gA := if 4 ≤ w32 l1 then (k20 s) else (if 0 ≤ w32 l1 ∧ w32 l1 < 4 then g_le (g_up s 44 (w32 l1).toNat (i_nar .boolean 0)) fun s3 => (k2 (l1 + 1) s3) else none)
def Machine_moveAll_2L (k20 : gS → gA) : Nat → Int → gS → gA
  | 0 => fun _ _ => none
  | n + 1 => Machine_moveAll_2 (Machine_moveAll_2L k20 n) k20
def Machine_moveAll_83 (k46 : Int → gS → gA) (l1 : Int) (s : gS) : gA := k46 (l1 + 1) s
def Machine_moveAll_46 (k46 : Int → gS → gA) (l1 : Int) (s : gS) : gA := if 4 ≤ w32 l1 then (some (0, s)) else (if 0 ≤ w32 l1 ∧ w32 l1 < 4 then (if w32 (s 45 (w32 l1).toNat) < 4 then ((Machine_moveAll_83 k46) l1 s) else (if w32 (s 40 11) = 0 then (g_le (g_up s 40 11 1) fun s24 => g_le (g_up s24 40 10 ((s24 40 10) + 1)) fun s26 => ((Machine_moveAll_83 k46) l1 s26)) else ((Machine_moveAll_83 k46) l1 s))) else none)
def Machine_moveAll_46L : Nat → Int → gS → gA
  | 0 => fun _ _ => none
  | n + 1 => Machine_moveAll_46 (Machine_moveAll_46L n)
def Machine_moveAll_20 (s : gS) : gA := g_bi (Machine_moveFrom 2 s) fun _ s6 => g_bi (Machine_moveFrom 3 s6) fun _ s9 => g_bi (Machine_moveFrom 1 s9) fun _ s12 => g_bi (Machine_moveFrom 0 s12) fun _ s15 => g_bi (Machine_feed s15) fun _ s18 => ((Machine_moveAll_46L gFu) 0 s18)
def Machine_moveAll (s : gS) : gA := (Machine_moveAll_2L Machine_moveAll_20 gFu) 0 s
-- BandPress$Machine.pass()V (40,)
def Machine_pass_113 (s : gS) : gA := g_bi (Arrays_fill1_b 0 s) fun _ s13 => (some (0, s13))
def Machine_pass_99 (s : gS) : gA := if w32 (s 40 8) = 0 then (if w32 (s 40 11) = 0 then (g_bi (Machine_moveAll s) fun _ s17 => (some (0, s17))) else (Machine_pass_113 s)) else (Machine_pass_113 s)
def Machine_pass_63 (t1 : Int) (s : gS) : gA := g_le (g_up s 40 6 t1) fun s8 => (if w32 (s8 40 8) = 0 then (if w32 (s8 40 11) = 0 then (Machine_pass_99 s8) else (g_bi (Machine_inside s8) fun r20 s21 => (if w32 r20 = 0 then (g_bi (Machine_anySticks s21) fun r24 s25 => (if w32 r24 = 0 then (g_le (g_up s25 40 11 0) fun s28 => (Machine_pass_99 s28)) else (Machine_pass_99 s25))) else (Machine_pass_99 s21)))) else (Machine_pass_99 s8))
def Machine_pass_32 (t0 : Int) (s : gS) : gA := if w32 t0 = 0 then (g_bi (Math_max 0 ((s 40 6) - 5) s) fun r5 s6 => (Machine_pass_63 r5 s6)) else (g_bi (Math_min1 100 ((s 40 6) + 10) s) fun r30 s31 => (Machine_pass_63 r30 s31))
def Machine_pass_31 (s : gS) : gA := Machine_pass_32 0 s
def Machine_pass (s : gS) : gA := g_le (g_up s 40 9 ((s 40 9) + 1)) fun s1 => (if w32 (s1 40 8) = 0 then (g_bi (Order_left s1) fun r33 s34 => (if w32 r33 ≤ 0 then (Machine_pass_31 s34) else (Machine_pass_32 1 s34))) else (Machine_pass_31 s1))
-- BandPress.tick(I)I (0,)
def B_tick_12 (s : gS) : gT := some (2, 0, s)
def B_tick_22 (k22 : Int → Int → gS → gT) (l1 l2 : Int) (s : gS) : gT := if w32 l1 ≤ w32 l2 then (g_bi (Machine_state s) fun r4 s5 => (some (0, r4, s5))) else (g_bi (Machine_pass s) fun _ s8 => (k22 l1 (l2 + 1) s8))
def B_tick_22L : Nat → Int → Int → gS → gT
  | 0 => fun _ _ _ => none
  | n + 1 => B_tick_22 (B_tick_22L n)
def B_tick (a1 : Int) (s : gS) : gT := if w32 a1 < 1 then (B_tick_12 s) else (if w32 a1 ≤ 1000 then ((B_tick_22L gFu) a1 0 s) else (B_tick_12 s))
-- BandPress$Text.byteOf(JI)I ()
def Text_byteOf (a0 a2 : Int) (s : gS) : gA := some (i_and (l_ushr a0 (8 * a2)) 255, s)
-- BandPress$Text.isPlain(JI)Z ()
def Text_isPlain_2 (k2 : Int → Int → Int → gS → gA) (l0 l2 l3 : Int) (s : gS) : gA := if w32 l2 ≤ w32 l3 then (some (1, s)) else (g_bi (Text_byteOf l0 l3 s) fun r2 s3 => (if w32 r2 < 32 then (some (0, s3)) else (if w32 r2 ≤ 126 then (k2 l0 l2 (l3 + 1) s3) else (some (0, s3)))))
def Text_isPlain_2L : Nat → Int → Int → Int → gS → gA
  | 0 => fun _ _ _ _ => none
  | n + 1 => Text_isPlain_2 (Text_isPlain_2L n)
def Text_isPlain (a0 a2 : Int) (s : gS) : gA := (Text_isPlain_2L gFu) a0 a2 0 s
-- BandPress$Text.append(JI)Z (1,)
def Text_append_38 (k38 : Int → Int → gS → gA) (l1 l4 : Int) (s : gS) : gA := if w32 l4 < 0 then (some (1, s)) else (g_bi (Text_byteOf l1 l4 s) fun r11 s12 => if 0 ≤ w32 (s 1 3) ∧ w32 (s 1 3) < 300 then g_le (g_up s12 2 (w32 (s 1 3)).toNat r11) fun s15 => g_le (g_up s15 1 3 ((s15 1 3) + 1)) fun s17 => (k38 l1 (l4 + (-1)) s17) else none)
def Text_append_38L : Nat → Int → Int → gS → gA
  | 0 => fun _ _ _ => none
  | n + 1 => Text_append_38 (Text_append_38L n)
def Text_append (a1 a3 : Int) (s : gS) : gA := if w32 a3 < 1 then (some (0, s)) else (if 8 < w32 a3 then (some (0, s)) else (if 300 < w32 ((s 1 3) + a3) then (some (0, s)) else (g_bi (Text_isPlain a1 a3 s) fun r4 s5 => (if w32 r4 = 0 then (some (0, s5)) else (g_le (a3 - 1) fun v8 => ((Text_append_38L gFu) a1 v8 s5))))))
-- BandPress.type(JI)Z (0,)
def B_type (a1 a3 : Int) (s : gS) : gA := g_bi (Text_append a1 a3 s) fun r1 s2 => if w32 r1 = 0 ∨ w32 r1 = 1 then (some (r1, s2)) else none
-- BandPress.value(I)I (0,)
def B_value_18 (s : gS) : gT := some (3, 0, s)
def B_value (a1 : Int) (s : gS) : gT := if w32 a1 < 0 then (B_value_18 s) else (if w32 a1 < w32 (s 18 1) then (g_bi (Values_peek a1 s) fun r3 s4 => (some (0, r3, s4))) else (B_value_18 s))
-- BandPress.variable(I)I (0,)
def B_variable (a1 : Int) (s : gS) : gA := if w32 a1 < 0 then (some (0, s)) else (if w32 a1 < 26 then (if 0 ≤ w32 a1 ∧ w32 a1 < 26 then (some (s 20 (w32 a1).toNat, s)) else none) else (some (0, s)))
-- BandPressModel.byteOf(III)I (49,)
def M_byteOf_48 (k6 : Int → Int → Int → Int → Int → gS → gA) (l1 l2 l3 l5 t0 t1 : Int) (s : gS) : gA := g_le (t0 + t1) fun v4 => (k6 l1 l2 l3 v4 (l5 + 1) s)
def M_byteOf_6 (k6 : Int → Int → Int → Int → Int → gS → gA) (l1 l2 l3 l4 l5 : Int) (s : gS) : gA := if 8 ≤ w32 l5 then (some (l4, s)) else (if 0 ≤ w32 ((((3072 * l1) + (64 * l2)) + (8 * l3)) + l5) ∧ w32 ((((3072 * l1) + (64 * l2)) + (8 * l3)) + l5) < 27648 then (if w32 (s 64 (w32 ((((3072 * l1) + (64 * l2)) + (8 * l3)) + l5)).toNat) = 0 then ((M_byteOf_48 k6) l1 l2 l3 l5 (2 * l4) 0 s) else ((M_byteOf_48 k6) l1 l2 l3 l5 (2 * l4) 1 s)) else none)
def M_byteOf_6L : Nat → Int → Int → Int → Int → Int → gS → gA
  | 0 => fun _ _ _ _ _ _ => none
  | n + 1 => M_byteOf_6 (M_byteOf_6L n)
def M_byteOf (a1 a2 a3 : Int) (s : gS) : gA := (M_byteOf_6L gFu) a1 a2 a3 0 0 s
-- BandPressModel.alike(III)I (49,)
def M_alike_3 (k3 : Int → Int → Int → Int → gS → gA) (l1 l2 l3 l4 : Int) (s : gS) : gA := if 8 ≤ w32 (l3 + l4) then (some (l4, s)) else (g_bi (M_byteOf l1 l2 (l3 + l4) s) fun r2 s3 => g_bi (M_byteOf l1 l2 l3 s3) fun r5 s6 => (if w32 r2 = w32 r5 then (k3 l1 l2 l3 (l4 + 1) s6) else (some (l4, s6))))
def M_alike_3L : Nat → Int → Int → Int → Int → gS → gA
  | 0 => fun _ _ _ _ _ => none
  | n + 1 => M_alike_3 (M_alike_3L n)
def M_alike (a1 a2 a3 : Int) (s : gS) : gA := (M_alike_3L gFu) a1 a2 a3 1 s
-- BandPressModel.sixteenth(II)J ()
def M_sixteenth (a0 a1 : Int) (s : gS) : gA := some (l_shr ((w32 a0) * (w32 a1)) 4, s)
-- BandPressModel.xOf(I)J (49,)
def M_xOf (a1 : Int) (s : gS) : gA := g_bi (M_sixteenth (s 62 0) a1 s) fun r1 s2 => (some ((w32 (s 62 2)) + r1, s2))
-- BandPressModel.yOf(I)J (49,)
def M_yOf (a1 : Int) (s : gS) : gA := g_bi (M_sixteenth (s 62 1) a1 s) fun r1 s2 => (some ((w32 (s 62 3)) + r1, s2))
-- BandPressModel.along(IIIIIZ)I (49,)
def M_along_196 (k77 : Int → Int → Int → Int → Int → Int → gS → gA) (l7 l8 l9 l10 l11 l12 : Int) (s : gS) : gA := k77 l7 l8 l9 l10 l11 l12 s
def M_along_77 (k77 : Int → Int → Int → Int → Int → Int → gS → gA) (k199 : Int → Int → Int → gS → gA) (l7 l8 l9 l10 l11 l12 : Int) (s : gS) : gA := if w32 l12 ≤ 1 then (k199 l7 l10 l11 s) else (if w32 l11 ≤ 0 then (k199 l7 l10 l11 s) else (if w32 l12 ≤ w32 l11 then (k199 l7 l10 l11 s) else (g_le (i_shr (l7 + l8) 1) fun v16 => g_le (i_shr (l8 + l9) 1) fun v18 => g_le (i_shr (l9 + l10) 1) fun v20 => g_le (i_shr (v16 + v18) 1) fun v22 => g_le (i_shr (v18 + v20) 1) fun v24 => g_le (i_shr (v22 + v24) 1) fun v26 => g_le (i_div l12 2) fun v29 => (if w32 v29 < w32 l11 then (g_le (l11 - v29) fun v32 => ((M_along_196 k77) v26 v24 v20 l10 v32 v29 s)) else ((M_along_196 k77) l7 v16 v22 v26 l11 v29 s)))))
def M_along_77L (k199 : Int → Int → Int → gS → gA) : Nat → Int → Int → Int → Int → Int → Int → gS → gA
  | 0 => fun _ _ _ _ _ _ _ => none
  | n + 1 => M_along_77 (M_along_77L k199 n) k199
def M_along_199 (l7 l10 l11 : Int) (s : gS) : gA := if w32 l11 = 0 then (some (l7, s)) else (some (l10, s))
def M_along_67 (l1 l7 l8 l9 t0 : Int) (s : gS) : gA := (M_along_77L M_along_199 gFu) l7 l8 l9 t0 l1 8 s
def M_along_44 (l1 l5 l6 l7 l8 t0 : Int) (s : gS) : gA := if w32 l6 = 0 then (g_bi (M_yOf l5 s) fun r10 s11 => (M_along_67 l1 l7 l8 t0 r10 s11)) else (g_bi (M_xOf l5 s) fun r35 s36 => (M_along_67 l1 l7 l8 t0 r35 s36))
def M_along_21 (l1 l4 l5 l6 l7 t0 : Int) (s : gS) : gA := if w32 l6 = 0 then (g_bi (M_yOf l4 s) fun r6 s7 => (M_along_44 l1 l5 l6 l7 t0 r6 s7)) else (g_bi (M_xOf l4 s) fun r38 s39 => (M_along_44 l1 l5 l6 l7 t0 r38 s39))
def M_along (a1 a2 a3 a4 a5 a6 : Int) (s : gS) : gA := if w32 a6 = 0 then (g_bi (M_yOf a3 s) fun r2 s3 => (M_along_21 a1 a4 a5 a6 a2 r2 s3)) else (g_bi (M_xOf a3 s) fun r41 s42 => (M_along_21 a1 a4 a5 a6 a2 r41 s42))
-- BandPressModel.isLikeAbove(II)Z (49,)
def M_isLikeAbove_53 (k5 : Int → Int → Int → Int → gS → gA) (l1 l2 l4 t0 : Int) (s : gS) : gA := k5 l1 l2 t0 (l4 + 1) s
def M_isLikeAbove_52 (k5 : Int → Int → Int → Int → gS → gA) (l1 l2 l4 : Int) (s : gS) : gA := (M_isLikeAbove_53 k5) l1 l2 l4 0 s
def M_isLikeAbove_45 (k5 : Int → Int → Int → Int → gS → gA) (l1 l2 l4 t0 t1 : Int) (s : gS) : gA := if w32 t0 = w32 t1 then ((M_isLikeAbove_53 k5) l1 l2 l4 1 s) else ((M_isLikeAbove_52 k5) l1 l2 l4 s)
def M_isLikeAbove_5 (k5 : Int → Int → Int → Int → gS → gA) (l1 l2 l3 l4 : Int) (s : gS) : gA := if 8 ≤ w32 l4 then (if w32 l3 = 0 ∨ w32 l3 = 1 then (some (l3, s)) else none) else (if w32 l3 = 0 then ((M_isLikeAbove_52 k5) l1 l2 l4 s) else (g_bi (M_byteOf l1 l2 l4 s) fun r4 s5 => (if w32 (i_rem l2 8) = 0 then ((M_isLikeAbove_45 k5) l1 l2 l4 r4 0 s5) else (g_bi (M_byteOf l1 (l2 - 1) l4 s5) fun r9 s10 => ((M_isLikeAbove_45 k5) l1 l2 l4 r4 r9 s10)))))
def M_isLikeAbove_5L : Nat → Int → Int → Int → Int → gS → gA
  | 0 => fun _ _ _ _ _ => none
  | n + 1 => M_isLikeAbove_5 (M_isLikeAbove_5L n)
def M_isLikeAbove (a1 a2 : Int) (s : gS) : gA := (M_isLikeAbove_5L gFu) a1 a2 1 0 s
-- BandPressModel.out(I)V (49,)
def M_out (a1 : Int) (s : gS) : gA := if 0 ≤ w32 (s 49 39) ∧ w32 (s 49 39) < 640 then g_le (g_up s 66 (w32 (s 49 39)).toNat a1) fun s2 => g_le (g_up s2 49 39 ((s2 49 39) + 1)) fun s4 => (some (0, s4)) else none
-- BandPressModel.line(II)V (49,)
def M_line_47 (k47 : Int → Int → Int → Int → gS → gA) (k76 : Int → Int → Int → Int → gS → gA) (l1 l2 l3 l4 : Int) (s : gS) : gA := if 8 ≤ w32 (l3 + l4) then (k76 l1 l2 l3 l4 s) else (g_bi (M_alike l1 l2 (l3 + l4) s) fun r7 s8 => (if 2 ≤ w32 r7 then (k76 l1 l2 l3 l4 s8) else (k47 l1 l2 l3 (l4 + 1) s8)))
def M_line_47L (k76 : Int → Int → Int → Int → gS → gA) : Nat → Int → Int → Int → Int → gS → gA
  | 0 => fun _ _ _ _ _ => none
  | n + 1 => M_line_47 (M_line_47L k76 n) k76
def M_line_85 (k85 : Int → Int → Int → Int → Int → gS → gA) (k112 : Int → Int → Int → Int → gS → gA) (l1 l2 l3 l4 l5 : Int) (s : gS) : gA := if w32 l4 ≤ w32 l5 then (k112 l1 l2 l3 l4 s) else (g_bi (M_byteOf l1 l2 (l3 + l5) s) fun r15 s16 => g_bi (M_out r15 s16) fun _ s19 => (k85 l1 l2 l3 l4 (l5 + 1) s19))
def M_line_85L (k112 : Int → Int → Int → Int → gS → gA) : Nat → Int → Int → Int → Int → Int → gS → gA
  | 0 => fun _ _ _ _ _ _ => none
  | n + 1 => M_line_85 (M_line_85L k112 n) k112
def M_line_112 (k2 : Int → Int → Int → gS → gA) (l1 l2 l3 l4 : Int) (s : gS) : gA := g_le (l3 + l4) fun v21 => (k2 l1 l2 v21 s)
def M_line_76 (k2 : Int → Int → Int → gS → gA) (l1 l2 l3 l4 : Int) (s : gS) : gA := g_bi (M_out l4 s) fun _ s12 => ((M_line_85L (M_line_112 k2) gFu) l1 l2 l3 l4 0 s12)
def M_line_2 (k2 : Int → Int → Int → gS → gA) (l1 l2 l3 : Int) (s : gS) : gA := if 8 ≤ w32 l3 then (some (0, s)) else (g_bi (M_alike l1 l2 l3 s) fun r2 s3 => (if w32 r2 ≤ 1 then ((M_line_47L (M_line_76 k2) gFu) l1 l2 l3 r2 s3) else (g_bi (M_out (128 + r2) s3) fun _ s24 => g_bi (M_byteOf l1 l2 l3 s24) fun r26 s27 => g_bi (M_out r26 s27) fun _ s30 => ((M_line_112 k2) l1 l2 l3 r2 s30))))
def M_line_2L : Nat → Int → Int → Int → gS → gA
  | 0 => fun _ _ _ _ => none
  | n + 1 => M_line_2 (M_line_2L n)
def M_line (a1 a2 : Int) (s : gS) : gA := (M_line_2L gFu) a1 a2 0 s
-- BandPressModel.pack(II)Z (49,)
def M_pack_47 (k47 : Int → Int → Int → Int → gS → gA) (k79 : Int → Int → Int → Int → gS → gA) (l1 l2 l3 l4 : Int) (s : gS) : gA := if w32 ((8 * l2) + 8) ≤ w32 (l3 + l4) then (k79 l1 l2 l3 l4 s) else (g_bi (M_isLikeAbove l1 (l3 + l4) s) fun r11 s12 => (if w32 r11 = 0 then (k79 l1 l2 l3 l4 s12) else (k47 l1 l2 l3 (l4 + 1) s12)))
def M_pack_47L (k79 : Int → Int → Int → Int → gS → gA) : Nat → Int → Int → Int → Int → gS → gA
  | 0 => fun _ _ _ _ _ => none
  | n + 1 => M_pack_47 (M_pack_47L k79 n) k79
def M_pack_115 (k33 : Int → Int → Int → gS → gA) (l1 l2 t0 t1 : Int) (s : gS) : gA := g_le (t0 + t1) fun v20 => (k33 l1 l2 v20 s)
def M_pack_103 (k33 : Int → Int → Int → gS → gA) (l1 l2 l3 l4 : Int) (s : gS) : gA := if w32 l4 ≤ 0 then ((M_pack_115 k33) l1 l2 l3 1 s) else ((M_pack_115 k33) l1 l2 l3 l4 s)
def M_pack_79 (k33 : Int → Int → Int → gS → gA) (l1 l2 l3 l4 : Int) (s : gS) : gA := if w32 l4 ≤ 0 then (g_bi (M_line l1 l3 s) fun _ s17 => ((M_pack_103 k33) l1 l2 l3 l4 s17)) else (g_bi (M_out (192 + l4) s) fun _ s23 => ((M_pack_103 k33) l1 l2 l3 l4 s23))
def M_pack_33 (k33 : Int → Int → Int → gS → gA) (l1 l2 l3 : Int) (s : gS) : gA := if w32 ((8 * l2) + 8) ≤ w32 l3 then (some (1, s)) else ((M_pack_47L (M_pack_79 k33) gFu) l1 l2 l3 0 s)
def M_pack_33L : Nat → Int → Int → Int → gS → gA
  | 0 => fun _ _ _ _ => none
  | n + 1 => M_pack_33 (M_pack_33L n)
def M_pack (a1 a2 : Int) (s : gS) : gA := if w32 a1 < 0 then (some (0, s)) else (if w32 (s 49 8) ≤ w32 a1 then (some (0, s)) else (if w32 a2 < 0 then (some (0, s)) else (if w32 a2 ≤ 5 then (g_le (g_up s 49 39 0) fun s5 => g_le (8 * a2) fun v7 => ((M_pack_33L gFu) a1 a2 v7 s5)) else (some (0, s)))))
-- BandPressModel.band(II)I (49,)
def M_band (a1 a2 : Int) (s : gS) : gA := g_le (g_up s 49 0 0) fun s1 => g_bi (M_pack a1 a2 s1) fun r3 s4 => (if w32 r3 = 0 then (some ((-1), s4)) else (some (s4 49 39, s4)))
-- BandPressModel.closing(I)I (49,)
def M_closing_45 (k4 : Int → Int → Int → gS → gA) (l1 l3 t0 t1 : Int) (s : gS) : gA := g_le (t0 + t1) fun v6 => (k4 l1 v6 (l3 + 1) s)
def M_closing_13 (k4 : Int → Int → Int → gS → gA) (l1 l2 l3 : Int) (s : gS) : gA := if 0 ≤ w32 l3 ∧ w32 l3 < 300 then (if w32 (s 51 (w32 l3).toNat) = 123 then ((M_closing_45 k4) l1 l3 l2 1 s) else (if 0 ≤ w32 l3 ∧ w32 l3 < 300 then (if w32 (s 51 (w32 l3).toNat) = 125 then ((M_closing_45 k4) l1 l3 l2 (-1) s) else ((M_closing_45 k4) l1 l3 l2 0 s)) else none)) else none
def M_closing_4 (k4 : Int → Int → Int → gS → gA) (l1 l2 l3 : Int) (s : gS) : gA := if 0 < w32 l2 then ((M_closing_13 k4) l1 l2 l3 s) else (if w32 l3 = w32 l1 then ((M_closing_13 k4) l1 l2 l3 s) else (some (l3 - 1, s)))
def M_closing_4L : Nat → Int → Int → Int → gS → gA
  | 0 => fun _ _ _ _ => none
  | n + 1 => M_closing_4 (M_closing_4L n)
def M_closing (a1 : Int) (s : gS) : gA := (M_closing_4L gFu) a1 0 a1 s
-- BandPressModel.cover(Z)Z (49,)
def M_cover (a1 : Int) (s : gS) : gA := g_le (g_up s 49 0 0) fun s1 => g_le (s1 49 46) fun v3 => if w32 a1 = 0 ∨ w32 a1 = 1 then g_le (g_up s1 49 46 a1) fun s6 => (if w32 v3 = w32 a1 then (some (0, s6)) else (some (1, s6))) else none
-- BandPressModel.meets(IIIIII)I ()
def M_meets_42 (l0 l1 l2 l3 l4 l5 : Int) (s : gS) : gA := if w32 l5 < w32 l3 then (some (0, s)) else (if w32 l1 ≤ w32 l5 then (some (0, s)) else (if 0 < w32 (l_cmp ((w32 (l5 - l3)) * (w32 (l0 - l2))) ((w32 (l4 - l2)) * (w32 (l1 - l3)))) then (some (0, s)) else (some ((-1), s))))
def M_meets (a0 a1 a2 a3 a4 a5 : Int) (s : gS) : gA := if w32 a5 < w32 a1 then (M_meets_42 a0 a1 a2 a3 a4 a5 s) else (if w32 a3 ≤ w32 a5 then (M_meets_42 a0 a1 a2 a3 a4 a5 s) else (if 0 < w32 (l_cmp ((w32 (a5 - a1)) * (w32 (a2 - a0))) ((w32 (a4 - a0)) * (w32 (a3 - a1)))) then (some (0, s)) else (some (1, s))))
-- BandPressModel.isIn(IIZ)Z (49,)
def M_isIn_135 (k12 : Int → Int → Int → Int → Int → Int → Int → gS → gA) (l1 l2 l3 l4 l6 l7 t0 t1 : Int) (s : gS) : gA := g_le (t0 + t1) fun v16 => (k12 l1 l2 l3 l4 v16 l6 (l7 + 1) s)
def M_isIn_79 (k12 : Int → Int → Int → Int → Int → Int → Int → gS → gA) (l1 l2 l3 l4 l5 l6 l7 t0 : Int) (s : gS) : gA := if 0 ≤ w32 l7 ∧ w32 l7 < 200 then if 0 ≤ w32 l7 ∧ w32 l7 < 200 then if 0 ≤ w32 t0 ∧ w32 t0 < 200 then if 0 ≤ w32 t0 ∧ w32 t0 < 200 then g_bi (M_meets (s 59 (w32 l7).toNat) (s 60 (w32 l7).toNat) (s 59 (w32 t0).toNat) (s 60 (w32 t0).toNat) l1 l2 s) fun r10 s11 => g_le (l4 + r10) fun v13 => (if w32 r10 = 0 then ((M_isIn_135 k12) l1 l2 l3 v13 l6 l7 l5 0 s11) else ((M_isIn_135 k12) l1 l2 l3 v13 l6 l7 l5 1 s11)) else none else none else none else none
def M_isIn_63 (k12 : Int → Int → Int → Int → Int → Int → Int → gS → gA) (l1 l2 l3 l4 l5 l6 l7 t0 : Int) (s : gS) : gA := if w32 t0 = 0 then ((M_isIn_79 k12) l1 l2 l3 l4 l5 l6 l7 (l7 + 1) s) else ((M_isIn_79 k12) l1 l2 l3 l4 l5 l6 l7 l6 s)
def M_isIn_58 (k12 : Int → Int → Int → Int → Int → Int → Int → gS → gA) (l1 l2 l3 l4 l5 l6 l7 : Int) (s : gS) : gA := (M_isIn_63 k12) l1 l2 l3 l4 l5 l6 l7 1 s
def M_isIn_35 (k12 : Int → Int → Int → Int → Int → Int → Int → gS → gA) (l1 l2 l3 l4 l5 l6 l7 : Int) (s : gS) : gA := if w32 (l7 + 1) = w32 (s 49 22) then ((M_isIn_58 k12) l1 l2 l3 l4 l5 l6 l7 s) else (if 0 ≤ w32 (l7 + 1) ∧ w32 (l7 + 1) < 200 then (if w32 (s 61 (w32 (l7 + 1)).toNat) = 0 then ((M_isIn_63 k12) l1 l2 l3 l4 l5 l6 l7 0 s) else ((M_isIn_58 k12) l1 l2 l3 l4 l5 l6 l7 s)) else none)
def M_isIn_12 (k12 : Int → Int → Int → Int → Int → Int → Int → gS → gA) (k144 : Int → Int → Int → gS → gA) (l1 l2 l3 l4 l5 l6 l7 : Int) (s : gS) : gA := if w32 (s 49 22) ≤ w32 l7 then (k144 l3 l4 l5 s) else (if 0 ≤ w32 l7 ∧ w32 l7 < 200 then (if w32 (s 61 (w32 l7).toNat) = 0 then ((M_isIn_35 k12) l1 l2 l3 l4 l5 l6 l7 s) else ((M_isIn_35 k12) l1 l2 l3 l4 l5 l7 l7 s)) else none)
def M_isIn_12L (k144 : Int → Int → Int → gS → gA) : Nat → Int → Int → Int → Int → Int → Int → Int → gS → gA
  | 0 => fun _ _ _ _ _ _ _ _ => none
  | n + 1 => M_isIn_12 (M_isIn_12L k144 n) k144
def M_isIn_144 (l3 l4 l5 : Int) (s : gS) : gA := if w32 l3 = 0 then (if w32 (i_rem l5 2) = 1 then (some (1, s)) else (some (0, s))) else (if w32 l4 = 0 then (some (0, s)) else (some (1, s)))
def M_isIn (a1 a2 a3 : Int) (s : gS) : gA := (M_isIn_12L M_isIn_144 gFu) a1 a2 a3 0 0 0 0 s
-- BandPressModel.look(Z)I (49,)
def M_look_94 (k16 : Int → Int → Int → Int → Int → gS → gA) (l1 l3 l5 l6 t0 t1 : Int) (s : gS) : gA := g_le (t0 + t1) fun v12 => if 0 ≤ w32 l6 ∧ w32 l6 < 3072 then g_le (s 65 (w32 l6).toNat) fun v15 => (k16 l1 v12 l3 v15 (l5 + 1) s) else none
def M_look_93 (k16 : Int → Int → Int → Int → Int → gS → gA) (l1 l3 l5 l6 t0 : Int) (s : gS) : gA := (M_look_94 k16) l1 l3 l5 l6 t0 0 s
def M_look_72 (k16 : Int → Int → Int → Int → Int → gS → gA) (l1 l2 l3 l4 l5 l6 t1 t2 : Int) (s : gS) : gA := if 0 ≤ w32 t1 ∧ w32 t1 < 3072 then g_le (g_up s 65 (w32 t1).toNat (i_nar .boolean t2)) fun s8 => if 0 ≤ w32 l6 ∧ w32 l6 < 3072 then (if w32 (s8 65 (w32 l6).toNat) = 0 then ((M_look_93 k16) l1 l3 l5 l6 l2 s8) else (if w32 l4 = 0 then ((M_look_94 k16) l1 l3 l5 l6 l2 1 s8) else ((M_look_93 k16) l1 l3 l5 l6 l2 s8))) else none else none
def M_look_71 (k16 : Int → Int → Int → Int → Int → gS → gA) (l1 l2 l3 l4 l5 l6 t1 : Int) (s : gS) : gA := (M_look_72 k16) l1 l2 l3 l4 l5 l6 t1 0 s
def M_look_16 (k16 : Int → Int → Int → Int → Int → gS → gA) (k111 : Int → Int → Int → gS → gA) (l1 l2 l3 l4 l5 : Int) (s : gS) : gA := if 64 ≤ w32 l5 then (k111 l1 l2 l3 s) else (g_le ((64 * l3) + l5) fun v3 => if 0 ≤ w32 v3 ∧ w32 v3 < 15360 then (if w32 (s 63 (w32 v3).toNat) = 0 then ((M_look_71 k16) l1 l2 l3 l4 l5 v3 v3 s) else (g_bi (M_isIn ((4 * l5) + 2) ((4 * l3) + 2) l1 s) fun r18 s19 => (if w32 r18 = 0 then ((M_look_71 k16) l1 l2 l3 l4 l5 v3 v3 s19) else ((M_look_72 k16) l1 l2 l3 l4 l5 v3 v3 1 s19)))) else none)
def M_look_16L (k111 : Int → Int → Int → gS → gA) : Nat → Int → Int → Int → Int → Int → gS → gA
  | 0 => fun _ _ _ _ _ _ => none
  | n + 1 => M_look_16 (M_look_16L k111 n) k111
def M_look_111 (k4 : Int → Int → Int → gS → gA) (l1 l2 l3 : Int) (s : gS) : gA := k4 l1 l2 (l3 + 1) s
def M_look_4 (k4 : Int → Int → Int → gS → gA) (l1 l2 l3 : Int) (s : gS) : gA := if 48 ≤ w32 l3 then (some (l2, s)) else ((M_look_16L (M_look_111 k4) gFu) l1 l2 l3 0 0 s)
def M_look_4L : Nat → Int → Int → Int → gS → gA
  | 0 => fun _ _ _ _ => none
  | n + 1 => M_look_4 (M_look_4L n)
def M_look (a1 : Int) (s : gS) : gA := (M_look_4L gFu) a1 0 0 s
-- BandPressModel.noPath()V (49,)
def M_noPath (s : gS) : gA := g_le (g_up s 49 22 0) fun s1 => g_le (g_up s1 49 27 0) fun s3 => g_le (g_up s3 49 28 0) fun s5 => (some (0, s5))
-- BandPressModel.cut()V (49,)
def M_cut_8 (k8 : Int → gS → gA) (l1 : Int) (s : gS) : gA := if 3072 ≤ w32 l1 then (g_bi (M_noPath s) fun _ s6 => (some (0, s6))) else (if 0 ≤ w32 l1 ∧ w32 l1 < 3072 then if 0 ≤ w32 l1 ∧ w32 l1 < 15360 then g_le (g_up s 63 (w32 l1).toNat (i_nar .boolean (s 65 (w32 l1).toNat))) fun s10 => (k8 (l1 + 1) s10) else none else none)
def M_cut_8L : Nat → Int → gS → gA
  | 0 => fun _ _ => none
  | n + 1 => M_cut_8 (M_cut_8L n)
def M_cut (s : gS) : gA := g_bi (M_look 1 s) fun r1 s2 => ((M_cut_8L gFu) 0 s2)
-- BandPressModel.isDigit(I)Z ()
def M_isDigit (a0 : Int) (s : gS) : gA := if w32 a0 < 48 then (some (0, s)) else (if 57 < w32 a0 then (some (0, s)) else (some (1, s)))
-- BandPressModel.isLetter(I)Z ()
def M_isLetter (a0 : Int) (s : gS) : gA := if w32 a0 < 97 then (some (0, s)) else (if 122 < w32 a0 then (some (0, s)) else (some (1, s)))
-- BandPressModel.needs(I)I ()
def M_needs_387 (l0 : Int) (s : gS) : gA := g_bi (M_isDigit l0 s) fun r91 s92 => (if w32 r91 = 0 then (g_bi (M_isLetter l0 s92) fun r95 s96 => (if w32 r95 = 0 then (some ((-1), s96)) else (some (0, s96)))) else (some (0, s92)))
def M_needs (a0 : Int) (s : gS) : gA := if w32 a0 = 37 then (some (2, s)) else (if w32 a0 = 38 then (M_needs_387 a0 s) else (if w32 a0 = 39 then (M_needs_387 a0 s) else (if w32 a0 = 40 then (M_needs_387 a0 s) else (if w32 a0 = 41 then (M_needs_387 a0 s) else (if w32 a0 = 42 then (some (2, s)) else (if w32 a0 = 43 then (some (2, s)) else (if w32 a0 = 44 then (M_needs_387 a0 s) else (if w32 a0 = 45 then (some (2, s)) else (if w32 a0 = 46 then (M_needs_387 a0 s) else (if w32 a0 = 47 then (some (2, s)) else (if w32 a0 = 48 then (M_needs_387 a0 s) else (if w32 a0 = 49 then (M_needs_387 a0 s) else (if w32 a0 = 50 then (M_needs_387 a0 s) else (if w32 a0 = 51 then (M_needs_387 a0 s) else (if w32 a0 = 52 then (M_needs_387 a0 s) else (if w32 a0 = 53 then (M_needs_387 a0 s) else (if w32 a0 = 54 then (M_needs_387 a0 s) else (if w32 a0 = 55 then (M_needs_387 a0 s) else (if w32 a0 = 56 then (M_needs_387 a0 s) else (if w32 a0 = 57 then (M_needs_387 a0 s) else (if w32 a0 = 58 then (some (1, s)) else (if w32 a0 = 59 then (M_needs_387 a0 s) else (if w32 a0 = 60 then (some (2, s)) else (if w32 a0 = 61 then (some (2, s)) else (if w32 a0 = 62 then (M_needs_387 a0 s) else (if w32 a0 = 63 then (some (3, s)) else (if w32 a0 = 64 then (M_needs_387 a0 s) else (if w32 a0 = 65 then (M_needs_387 a0 s) else (if w32 a0 = 66 then (M_needs_387 a0 s) else (if w32 a0 = 67 then (some (6, s)) else (if w32 a0 = 68 then (some (1, s)) else (if w32 a0 = 69 then (some (0, s)) else (if w32 a0 = 70 then (some (0, s)) else (if w32 a0 = 71 then (some (1, s)) else (if w32 a0 = 72 then (M_needs_387 a0 s) else (if w32 a0 = 73 then (M_needs_387 a0 s) else (if w32 a0 = 74 then (M_needs_387 a0 s) else (if w32 a0 = 75 then (M_needs_387 a0 s) else (if w32 a0 = 76 then (some (2, s)) else (if w32 a0 = 77 then (some (2, s)) else (if w32 a0 = 78 then (some (0, s)) else (if w32 a0 = 79 then (some (1, s)) else (if w32 a0 = 80 then (some (0, s)) else (if w32 a0 = 81 then (some (0, s)) else (if w32 a0 = 82 then (some (2, s)) else (if w32 a0 = 83 then (some (2, s)) else (if w32 a0 = 84 then (some (2, s)) else (if w32 a0 = 85 then (some (0, s)) else (if w32 a0 = 86 then (some (0, s)) else (if w32 a0 = 87 then (some (0, s)) else (if w32 a0 = 88 then (some (2, s)) else (if w32 a0 = 89 then (M_needs_387 a0 s) else (if w32 a0 = 90 then (some (0, s)) else (if w32 a0 = 91 then (M_needs_387 a0 s) else (if w32 a0 = 92 then (M_needs_387 a0 s) else (if w32 a0 = 93 then (M_needs_387 a0 s) else (if w32 a0 = 94 then (M_needs_387 a0 s) else (if w32 a0 = 95 then (M_needs_387 a0 s) else (if w32 a0 = 96 then (M_needs_387 a0 s) else (if w32 a0 = 97 then (M_needs_387 a0 s) else (if w32 a0 = 98 then (M_needs_387 a0 s) else (if w32 a0 = 99 then (M_needs_387 a0 s) else (if w32 a0 = 100 then (M_needs_387 a0 s) else (if w32 a0 = 101 then (M_needs_387 a0 s) else (if w32 a0 = 102 then (M_needs_387 a0 s) else (if w32 a0 = 103 then (M_needs_387 a0 s) else (if w32 a0 = 104 then (M_needs_387 a0 s) else (if w32 a0 = 105 then (M_needs_387 a0 s) else (if w32 a0 = 106 then (M_needs_387 a0 s) else (if w32 a0 = 107 then (M_needs_387 a0 s) else (if w32 a0 = 108 then (M_needs_387 a0 s) else (if w32 a0 = 109 then (M_needs_387 a0 s) else (if w32 a0 = 110 then (M_needs_387 a0 s) else (if w32 a0 = 111 then (M_needs_387 a0 s) else (if w32 a0 = 112 then (M_needs_387 a0 s) else (if w32 a0 = 113 then (M_needs_387 a0 s) else (if w32 a0 = 114 then (M_needs_387 a0 s) else (if w32 a0 = 115 then (M_needs_387 a0 s) else (if w32 a0 = 116 then (M_needs_387 a0 s) else (if w32 a0 = 117 then (M_needs_387 a0 s) else (if w32 a0 = 118 then (M_needs_387 a0 s) else (if w32 a0 = 119 then (M_needs_387 a0 s) else (if w32 a0 = 120 then (M_needs_387 a0 s) else (if w32 a0 = 121 then (M_needs_387 a0 s) else (if w32 a0 = 122 then (M_needs_387 a0 s) else (if w32 a0 = 123 then (some (0, s)) else (if w32 a0 = 124 then (M_needs_387 a0 s) else (if w32 a0 = 125 then (some (0, s)) else (if w32 a0 = 126 then (some (1, s)) else (M_needs_387 a0 s))))))))))))))))))))))))))))))))))))))))))))))))))))))))))))))))))))))))))))))))))))))))))
-- BandPressModel.place(IIZ)V (49,)
def M_place (a1 a2 a3 : Int) (s : gS) : gA := if 0 ≤ w32 (s 49 22) ∧ w32 (s 49 22) < 200 then g_le (g_up s 59 (w32 (s 49 22)).toNat a1) fun s2 => if 0 ≤ w32 (s2 49 22) ∧ w32 (s2 49 22) < 200 then g_le (g_up s2 60 (w32 (s2 49 22)).toNat a2) fun s5 => if 0 ≤ w32 (s5 49 22) ∧ w32 (s5 49 22) < 200 then g_le (g_up s5 61 (w32 (s5 49 22)).toNat (i_nar .boolean a3)) fun s8 => g_le (g_up s8 49 22 ((s8 49 22) + 1)) fun s10 => g_le (g_up s10 49 23 a1) fun s12 => g_le (g_up s12 49 24 a2) fun s14 => g_le (g_up s14 49 27 1) fun s16 => (if w32 a3 = 0 then (some (0, s16)) else (g_le (g_up s16 49 25 a1) fun s19 => g_le (g_up s19 49 26 a2) fun s21 => g_le (g_up s21 49 28 0) fun s23 => (some (0, s23)))) else none else none else none
-- BandPressModel.number(I)I (49,)
def M_number (a1 : Int) (s : gS) : gA := if 0 ≤ w32 (((s 49 13) - 1) - a1) ∧ w32 (((s 49 13) - 1) - a1) < 33 then (some (s 52 (w32 (((s 49 13) - 1) - a1)).toNat, s)) else none
-- BandPressModel.draw(I)V (49,)
def M_draw_154 (l2 : Int) (s : gS) : gA := g_le (g_up s 49 13 ((s 49 13) - l2)) fun s22 => (some (0, s22))
def M_draw_151 (l2 t1 t2 t3 : Int) (s : gS) : gA := g_bi (M_place t1 t2 t3 s) fun _ s20 => (M_draw_154 l2 s20)
def M_draw_51 (k51 : Int → Int → Int → Int → gS → gA) (k116 : Int → gS → gA) (l2 l3 l4 l5 : Int) (s : gS) : gA := if 9 ≤ w32 l5 then (k116 l2 s) else (g_bi (M_number 5 s) fun r29 s30 => g_bi (M_number 3 s30) fun r32 s33 => g_bi (M_number 1 s33) fun r35 s36 => g_bi (M_along l5 l3 r29 r32 r35 1 s36) fun r38 s39 => g_bi (M_number 4 s39) fun r41 s42 => g_bi (M_number 2 s42) fun r44 s45 => g_bi (M_number 0 s45) fun r47 s48 => g_bi (M_along l5 l4 r41 r44 r47 0 s48) fun r50 s51 => g_bi (M_place r38 r50 0 s51) fun _ s54 => (k51 l2 l3 l4 (l5 + 1) s54))
def M_draw_51L (k116 : Int → gS → gA) : Nat → Int → Int → Int → Int → gS → gA
  | 0 => fun _ _ _ _ _ => none
  | n + 1 => M_draw_51 (M_draw_51L k116 n) k116
def M_draw_116 (l2 : Int) (s : gS) : gA := M_draw_154 l2 s
def M_draw_31 (l1 l2 : Int) (s : gS) : gA := if w32 l1 = 67 then (g_le (s 49 23) fun v24 => g_le (s 49 24) fun v26 => ((M_draw_51L M_draw_116 gFu) l2 v24 v26 1 s)) else (g_bi (M_number 1 s) fun r6 s7 => g_bi (M_xOf r6 s7) fun r9 s10 => g_bi (M_number 0 s10) fun r12 s13 => g_bi (M_yOf r12 s13) fun r15 s16 => (if w32 l1 = 77 then (M_draw_151 l2 r9 r15 1 s16) else (M_draw_151 l2 r9 r15 0 s16)))
def M_draw (a1 : Int) (s : gS) : gA := g_bi (M_needs a1 s) fun r1 s2 => (if w32 a1 = 77 then (M_draw_31 a1 r1 s2) else (if w32 (s2 49 28) = 0 then (M_draw_31 a1 r1 s2) else (g_bi (M_place (s2 49 23) (s2 49 24) 1 s2) fun _ s58 => (M_draw_31 a1 r1 s58))))
-- BandPressModel.empty(I)V (49,)
def M_empty (a1 : Int) (s : gS) : gA := if 0 ≤ w32 a1 ∧ w32 a1 < 4 then g_le (g_up s 67 (w32 a1).toNat (-1)) fun s2 => if 0 ≤ w32 a1 ∧ w32 a1 < 4 then g_le (g_up s2 68 (w32 a1).toNat 0) fun s5 => if 0 ≤ w32 a1 ∧ w32 a1 < 4 then g_le (g_up s5 69 (w32 a1).toNat 0) fun s8 => (some (0, s8)) else none else none else none
-- BandPressModel.endJob(II)V (49,)
def M_endJob_56 (k56 : Int → gS → gA) (l3 : Int) (s : gS) : gA := if 40 ≤ w32 l3 then (some (0, s)) else (if 0 ≤ w32 l3 ∧ w32 l3 < 40 then g_le (g_up s 73 (w32 l3).toNat (i_nar .boolean 0)) fun s13 => (k56 (l3 + 1) s13) else none)
def M_endJob_56L : Nat → Int → gS → gA
  | 0 => fun _ _ => none
  | n + 1 => M_endJob_56 (M_endJob_56L n)
def M_endJob_50 (t1 t2 : Int) (s : gS) : gA := g_le (g_up s 49 44 (t1 * t2)) fun s9 => ((M_endJob_56L gFu) 0 s9)
def M_endJob_20 (t1 : Int) (s : gS) : gA := g_le (g_up s 49 7 t1) fun s6 => (if w32 (s6 49 12) = 0 then (M_endJob_50 (s6 49 11) (s6 49 8) s6) else (M_endJob_50 (s6 49 11) (i_div ((s6 49 8) + 1) 2) s6))
def M_endJob (a1 a2 : Int) (s : gS) : gA := g_le (g_up s 49 5 2) fun s1 => g_le (g_up s1 49 6 a1) fun s3 => (if w32 a1 = 0 then (M_endJob_20 0 s3) else (M_endJob_20 a2 s3))
-- BandPressModel.enter(III)V (49,)
def M_enter (a1 a2 a3 : Int) (s : gS) : gA := if 0 ≤ w32 (s 49 17) ∧ w32 (s 49 17) < 22 then g_le (g_up s 55 (w32 (s 49 17)).toNat a1) fun s2 => if 0 ≤ w32 (s2 49 17) ∧ w32 (s2 49 17) < 22 then g_le (g_up s2 57 (w32 (s2 49 17)).toNat a1) fun s5 => if 0 ≤ w32 (s5 49 17) ∧ w32 (s5 49 17) < 22 then g_le (g_up s5 56 (w32 (s5 49 17)).toNat a2) fun s8 => if 0 ≤ w32 (s8 49 17) ∧ w32 (s8 49 17) < 22 then g_le (g_up s8 58 (w32 (s8 49 17)).toNat a3) fun s11 => g_le (g_up s11 49 17 ((s11 49 17) + 1)) fun s13 => (some (0, s13)) else none else none else none else none
-- BandPressModel.isKind(II)Z (49,)
def M_isKind_61 (k22 : Int → Int → Int → gS → gA) (l1 l2 l3 t0 : Int) (s : gS) : gA := if 0 ≤ w32 (((s 49 13) - 1) - l3) ∧ w32 (((s 49 13) - 1) - l3) < 33 then (if w32 (s 54 (w32 (((s 49 13) - 1) - l3)).toNat) = w32 t0 then (k22 l1 l2 (l3 + 1) s) else (some (0, s))) else none
def M_isKind_60 (k22 : Int → Int → Int → gS → gA) (l1 l2 l3 : Int) (s : gS) : gA := (M_isKind_61 k22) l1 l2 l3 0 s
def M_isKind_22 (k22 : Int → Int → Int → gS → gA) (l1 l2 l3 : Int) (s : gS) : gA := if w32 l2 ≤ w32 l3 then (some (1, s)) else (if w32 l1 = 63 then (if 2 ≤ w32 l3 then ((M_isKind_61 k22) l1 l2 l3 0 s) else ((M_isKind_61 k22) l1 l2 l3 1 s)) else (if w32 l1 = 82 then (if w32 l3 = 0 then ((M_isKind_61 k22) l1 l2 l3 1 s) else ((M_isKind_60 k22) l1 l2 l3 s)) else ((M_isKind_60 k22) l1 l2 l3 s)))
def M_isKind_22L : Nat → Int → Int → Int → gS → gA
  | 0 => fun _ _ _ _ => none
  | n + 1 => M_isKind_22 (M_isKind_22L n)
def M_isKind (a1 a2 : Int) (s : gS) : gA := if w32 a1 = 68 then (some (1, s)) else (if w32 a1 = 88 then (some (1, s)) else (if w32 a1 = 79 then (some (1, s)) else ((M_isKind_22L gFu) a1 a2 0 s)))
-- BandPressModel.quotient()I (49,)
def M_quotient (s : gS) : gA := g_bi (M_number 0 s) fun r1 s2 => (if w32 r1 = 0 then (some (0, s2)) else (g_bi (M_number 1 s2) fun r5 s6 => g_bi (M_number 0 s6) fun r8 s9 => if ¬ w32 r8 = 0 then (some (i_div r5 r8, s9)) else none))
-- BandPressModel.result(I)J (49,)
def M_result (a1 : Int) (s : gS) : gA := g_bi (M_number 1 s) fun r1 s2 => g_le (w32 r1) fun v4 => g_bi (M_number 0 s2) fun r6 s7 => g_le (w32 r6) fun v9 => (if w32 a1 = 43 then (some (v4 + v9, s7)) else (if w32 a1 = 45 then (some (v4 - v9, s7)) else (if w32 a1 = 42 then (some (v4 * v9, s7)) else (if w32 a1 = 47 then (g_bi (M_quotient s7) fun r15 s16 => (some (w32 r15, s16))) else (some (0, s7))))))
-- BandPressModel.isFar(JI)Z ()
def M_isFar (a0 a2 : Int) (s : gS) : gA := if 0 < w32 (l_cmp a0 (w32 a2)) then (some (1, s)) else (if 0 ≤ w32 (l_cmp a0 (w32 (-a2))) then (some (0, s)) else (some (1, s)))
-- BandPressModel.isNear(I)Z (49,)
def M_isNear_54 (k4 : Int → Int → Int → gS → gA) (l1 l3 t0 : Int) (s : gS) : gA := k4 l1 t0 (l3 + 2) s
def M_isNear_53 (k4 : Int → Int → Int → gS → gA) (l1 l3 : Int) (s : gS) : gA := (M_isNear_54 k4) l1 l3 0 s
def M_isNear_4 (k4 : Int → Int → Int → gS → gA) (l1 l2 l3 : Int) (s : gS) : gA := if w32 l1 ≤ w32 l3 then (if w32 l2 = 0 ∨ w32 l2 = 1 then (some (l2, s)) else none) else (if w32 l2 = 0 then ((M_isNear_53 k4) l1 l3 s) else (g_bi (M_number (l3 + 1) s) fun r4 s5 => g_bi (M_xOf r4 s5) fun r7 s8 => g_bi (M_isFar r7 100000 s8) fun r10 s11 => (if w32 r10 = 0 then (g_bi (M_number l3 s11) fun r14 s15 => g_bi (M_yOf r14 s15) fun r17 s18 => g_bi (M_isFar r17 100000 s18) fun r20 s21 => (if w32 r20 = 0 then ((M_isNear_54 k4) l1 l3 1 s21) else ((M_isNear_53 k4) l1 l3 s21))) else ((M_isNear_53 k4) l1 l3 s11))))
def M_isNear_4L : Nat → Int → Int → Int → gS → gA
  | 0 => fun _ _ _ _ => none
  | n + 1 => M_isNear_4 (M_isNear_4L n)
def M_isNear (a1 : Int) (s : gS) : gA := (M_isNear_4L gFu) a1 1 0 s
-- BandPressModel.placesFor(I)I (49,)
def M_placesFor (a1 : Int) (s : gS) : gA := if w32 (s 49 28) = 0 then (some (a1 + 0, s)) else (some (a1 + 1, s))
-- BandPressModel.isRepeated()Z (49,)
def M_isRepeated_2 (k2 : Int → gS → gA) (l1 : Int) (s : gS) : gA := if w32 (s 49 17) ≤ w32 l1 then (some (0, s)) else (if 0 ≤ w32 l1 ∧ w32 l1 < 22 then (if w32 (s 58 (w32 l1).toNat) = (-1) then (k2 (l1 + 1) s) else (some (1, s))) else none)
def M_isRepeated_2L : Nat → Int → gS → gA
  | 0 => fun _ _ => none
  | n + 1 => M_isRepeated_2 (M_isRepeated_2L n)
def M_isRepeated (s : gS) : gA := (M_isRepeated_2L gFu) 0 s
-- BandPressModel.errorOf(I)I (49,)
def M_errorOf_403 (t0 t2 : Int) (s : gS) : gA := g_bi (M_look t2 s) fun r43 s44 => (if w32 (t0 + r43) ≤ 250 then (some (0, s44)) else (some (8, s44)))
def M_errorOf_387 (l1 : Int) (s : gS) : gA := if w32 l1 = 70 then (M_errorOf_403 (s 49 36) 1 s) else (M_errorOf_403 (s 49 36) 0 s)
def M_errorOf_468 (l1 : Int) (s : gS) : gA := if w32 l1 = 81 then (g_bi (M_isRepeated s) fun r52 s53 => (if w32 r52 = 0 then (some (11, s53)) else (some (0, s53)))) else (some (0, s))
def M_errorOf_452 (l1 : Int) (s : gS) : gA := if w32 l1 = 86 then (if w32 (s 49 32) = 0 then (some (10, s)) else (M_errorOf_468 l1 s)) else (M_errorOf_468 l1 s)
def M_errorOf_438 (l1 : Int) (s : gS) : gA := if w32 l1 = 85 then (if w32 (s 49 32) = 4 then (some (10, s)) else (M_errorOf_452 l1 s)) else (M_errorOf_452 l1 s)
def M_errorOf_375 (l1 : Int) (s : gS) : gA := if w32 l1 = 70 then (M_errorOf_387 l1 s) else (if w32 l1 = 69 then (M_errorOf_387 l1 s) else (if w32 l1 = 80 then (if w32 (s 49 8) = 8 then (some (9, s)) else (M_errorOf_438 l1 s)) else (M_errorOf_438 l1 s)))
def M_errorOf_349 (l1 : Int) (s : gS) : gA := if w32 l1 = 67 then (g_bi (M_placesFor 8 s) fun r59 s60 => (if w32 ((s 49 22) + r59) ≤ 200 then (M_errorOf_375 l1 s60) else (some (7, s60)))) else (M_errorOf_375 l1 s)
def M_errorOf_327 (l1 : Int) (s : gS) : gA := if w32 l1 = 76 then (g_bi (M_placesFor 1 s) fun r63 s64 => (if 200 < w32 ((s 49 22) + r63) then (some (7, s64)) else (M_errorOf_349 l1 s64))) else (M_errorOf_349 l1 s)
def M_errorOf_311 (l1 : Int) (s : gS) : gA := if w32 l1 = 77 then (if w32 (s 49 22) = 200 then (some (7, s)) else (M_errorOf_327 l1 s)) else (M_errorOf_327 l1 s)
def M_errorOf_301 (l1 : Int) (s : gS) : gA := if w32 (s 49 27) = 0 then (some (6, s)) else (M_errorOf_311 l1 s)
def M_errorOf_283 (l1 : Int) (s : gS) : gA := if w32 l1 = 76 then (M_errorOf_301 l1 s) else (if w32 l1 = 67 then (M_errorOf_301 l1 s) else (if w32 l1 = 90 then (M_errorOf_301 l1 s) else (M_errorOf_311 l1 s)))
def M_errorOf_272 (l1 : Int) (s : gS) : gA := if w32 (s 49 17) = 21 then (some (5, s)) else (M_errorOf_283 l1 s)
def M_errorOf_252 (l1 : Int) (s : gS) : gA := if w32 l1 = 63 then (M_errorOf_272 l1 s) else (if w32 l1 = 82 then (g_bi (M_number 1 s) fun r71 s72 => (if w32 r71 ≤ 0 then (M_errorOf_283 l1 s72) else (M_errorOf_272 l1 s72))) else (M_errorOf_283 l1 s))
def M_errorOf_243 (l1 : Int) (s : gS) : gA := if w32 (s 49 13) = 32 then (some (5, s)) else (M_errorOf_252 l1 s)
def M_errorOf_217 (l1 : Int) (s : gS) : gA := g_bi (M_isDigit l1 s) fun r29 s30 => (if w32 r29 = 0 then (g_bi (M_isLetter l1 s30) fun r75 s76 => (if w32 r75 = 0 then (if w32 l1 = 123 then (M_errorOf_243 l1 s76) else (if w32 l1 = 68 then (M_errorOf_243 l1 s76) else (M_errorOf_252 l1 s76))) else (M_errorOf_243 l1 s76))) else (M_errorOf_243 l1 s30))
def M_errorOf_207 (l1 : Int) (s : gS) : gA := g_bi (M_number 0 s) fun r25 s26 => (if w32 r25 = 0 then (some (4, s26)) else (M_errorOf_217 l1 s26))
def M_errorOf_189 (l1 l3 : Int) (s : gS) : gA := if w32 l3 = 0 then (if w32 l1 = 47 then (M_errorOf_207 l1 s) else (if w32 l1 = 37 then (M_errorOf_207 l1 s) else (M_errorOf_217 l1 s))) else (some (3, s))
def M_errorOf_188 (l1 t0 : Int) (s : gS) : gA := M_errorOf_189 l1 t0 s
def M_errorOf_183 (l1 : Int) (s : gS) : gA := M_errorOf_188 l1 1 s
def M_errorOf_159 (l1 l3 : Int) (s : gS) : gA := if w32 l1 = 71 then (g_bi (M_number 0 s) fun r82 s83 => (if w32 r82 < 0 then (M_errorOf_183 l1 s83) else (g_bi (M_number 0 s83) fun r86 s87 => (if w32 r86 ≤ 16 then (M_errorOf_188 l1 0 s87) else (M_errorOf_183 l1 s87))))) else (M_errorOf_189 l1 l3 s)
def M_errorOf_158 (l1 t0 : Int) (s : gS) : gA := M_errorOf_159 l1 t0 s
def M_errorOf_153 (l1 : Int) (s : gS) : gA := M_errorOf_158 l1 1 s
def M_errorOf_101 (l1 l3 : Int) (s : gS) : gA := if w32 l1 = 83 then (g_bi (M_number 1 s) fun r90 s91 => g_bi (M_sixteenth (s 62 0) r90 s91) fun r93 s94 => g_bi (M_isFar r93 4096 s94) fun r96 s97 => (if w32 r96 = 0 then (g_bi (M_number 0 s97) fun r100 s101 => g_bi (M_sixteenth (s97 62 1) r100 s101) fun r103 s104 => g_bi (M_isFar r103 4096 s104) fun r106 s107 => (if w32 r106 = 0 then (M_errorOf_158 l1 0 s107) else (M_errorOf_153 l1 s107))) else (M_errorOf_153 l1 s97))) else (M_errorOf_159 l1 l3 s)
def M_errorOf_100 (l1 t0 : Int) (s : gS) : gA := M_errorOf_101 l1 t0 s
def M_errorOf_87 (l1 l2 : Int) (s : gS) : gA := g_bi (M_isNear l2 s) fun r17 s18 => (if w32 r17 = 0 then (M_errorOf_100 l1 1 s18) else (M_errorOf_100 l1 0 s18))
def M_errorOf_63 (l1 l2 l3 : Int) (s : gS) : gA := if w32 l1 = 77 then (M_errorOf_87 l1 l2 s) else (if w32 l1 = 76 then (M_errorOf_87 l1 l2 s) else (if w32 l1 = 67 then (M_errorOf_87 l1 l2 s) else (if w32 l1 = 84 then (M_errorOf_87 l1 l2 s) else (M_errorOf_101 l1 l3 s))))
def M_errorOf_52 (l1 l2 : Int) (s : gS) : gA := g_bi (M_result l1 s) fun r10 s11 => g_bi (M_isFar r10 1000000 s11) fun r13 s14 => (M_errorOf_63 l1 l2 r13 s14)
def M_errorOf (a1 : Int) (s : gS) : gA := g_bi (M_needs a1 s) fun r1 s2 => (if w32 r1 ≤ w32 (s2 49 13) then (g_bi (M_isKind a1 r1 s2) fun r5 s6 => (if w32 r5 = 0 then (some (2, s6)) else (if w32 a1 = 43 then (M_errorOf_52 a1 r1 s6) else (if w32 a1 = 45 then (M_errorOf_52 a1 r1 s6) else (if w32 a1 = 42 then (M_errorOf_52 a1 r1 s6) else (if w32 a1 = 47 then (M_errorOf_52 a1 r1 s6) else (M_errorOf_63 a1 r1 0 s6))))))) else (some (1, s2)))
-- BandPressModel.faultOf()I (49,)
def M_faultOf_118 (k118 : Int → Int → Int → Int → gS → gA) (k162 : Int → Int → gS → gA) (l1 l2 l3 l4 : Int) (s : gS) : gA := g_bi (M_isDigit l3 s) fun r17 s18 => (if w32 r17 = 0 then (k162 l1 l2 s18) else (if w32 (s18 49 3) ≤ w32 (l2 + 1) then (k162 l1 l2 s18) else (if 0 ≤ w32 (l2 + 1) ∧ w32 (l2 + 1) < 300 then g_bi (M_isDigit (s18 50 (w32 (l2 + 1)).toNat) s18) fun r23 s24 => (if w32 r23 = 0 then (k162 l1 l2 s24) else (if w32 (l2 + 1) = w32 (l4 + 5) then (some (l2 + 1, s24)) else (k118 l1 (l2 + 1) l3 l4 s24))) else none)))
def M_faultOf_118L (k162 : Int → Int → gS → gA) : Nat → Int → Int → Int → Int → gS → gA
  | 0 => fun _ _ _ _ _ => none
  | n + 1 => M_faultOf_118 (M_faultOf_118L k162 n) k162
def M_faultOf_162 (k4 : Int → Int → gS → gA) (l1 l2 : Int) (s : gS) : gA := k4 l1 (l2 + 1) s
def M_faultOf_115 (k4 : Int → Int → gS → gA) (l1 l2 l3 : Int) (s : gS) : gA := (M_faultOf_118L (M_faultOf_162 k4) gFu) l1 l2 l3 l2 s
def M_faultOf_82 (k4 : Int → Int → gS → gA) (l2 l3 t0 t1 : Int) (s : gS) : gA := g_le (t0 + t1) fun v14 => (if w32 l3 = 58 then (if w32 (l2 + 1) = w32 (s 49 3) then (some (l2 + 1, s)) else (if 0 ≤ w32 (l2 + 1) ∧ w32 (l2 + 1) < 300 then g_bi (M_isLetter (s 50 (w32 (l2 + 1)).toNat) s) fun r30 s31 => (if w32 r30 = 0 then (some (l2 + 1, s31)) else ((M_faultOf_115 k4) v14 (l2 + 1) l3 s31)) else none)) else ((M_faultOf_115 k4) v14 l2 l3 s))
def M_faultOf_60 (k4 : Int → Int → gS → gA) (l1 l2 l3 : Int) (s : gS) : gA := if w32 l3 = 123 then ((M_faultOf_82 k4) l2 l3 l1 1 s) else (if w32 l3 = 125 then ((M_faultOf_82 k4) l2 l3 l1 (-1) s) else ((M_faultOf_82 k4) l2 l3 l1 0 s))
def M_faultOf_46 (k4 : Int → Int → gS → gA) (l1 l2 l3 : Int) (s : gS) : gA := if w32 l3 = 123 then (if w32 l1 = 8 then (some (l2, s)) else ((M_faultOf_60 k4) l1 l2 l3 s)) else ((M_faultOf_60 k4) l1 l2 l3 s)
def M_faultOf_4 (k4 : Int → Int → gS → gA) (k168 : Int → gS → gA) (l1 l2 : Int) (s : gS) : gA := if w32 (s 49 3) ≤ w32 l2 then (k168 l1 s) else (if 0 ≤ w32 l2 ∧ w32 l2 < 300 then g_le (s 50 (w32 l2).toNat) fun v3 => (if w32 v3 = 32 then ((M_faultOf_162 k4) l1 l2 s) else (g_bi (M_needs v3 s) fun r6 s7 => (if w32 r6 = (-1) then (some (l2, s7)) else (if w32 v3 = 125 then (if w32 l1 = 0 then (some (l2, s7)) else ((M_faultOf_46 k4) l1 l2 v3 s7)) else ((M_faultOf_46 k4) l1 l2 v3 s7))))) else none)
def M_faultOf_4L (k168 : Int → gS → gA) : Nat → Int → Int → gS → gA
  | 0 => fun _ _ _ => none
  | n + 1 => M_faultOf_4 (M_faultOf_4L k168 n) k168
def M_faultOf_168 (l1 : Int) (s : gS) : gA := if w32 l1 ≤ 0 then (some ((-1), s)) else (some (s 49 3, s))
def M_faultOf (s : gS) : gA := (M_faultOf_4L M_faultOf_168 gFu) 0 0 s
-- BandPressModel.toMake()I (49,)
def M_toMake_51 (k27 : Int → Int → Int → gS → gA) (l1 l3 t0 : Int) (s : gS) : gA := k27 l1 t0 (l3 + 1) s
def M_toMake_50 (k27 : Int → Int → Int → gS → gA) (l1 l3 : Int) (s : gS) : gA := (M_toMake_51 k27) l1 l3 0 s
def M_toMake_27 (k27 : Int → Int → Int → gS → gA) (k58 : Int → Int → gS → gA) (l1 l2 l3 : Int) (s : gS) : gA := if 4 ≤ w32 l3 then (k58 l1 l2 s) else (if w32 l2 = 0 then ((M_toMake_50 k27) l1 l3 s) else (if 0 ≤ w32 l3 ∧ w32 l3 < 4 then (if w32 (s 67 (w32 l3).toNat) = w32 l1 then ((M_toMake_50 k27) l1 l3 s) else ((M_toMake_51 k27) l1 l3 1 s)) else none))
def M_toMake_27L (k58 : Int → Int → gS → gA) : Nat → Int → Int → Int → gS → gA
  | 0 => fun _ _ _ _ => none
  | n + 1 => M_toMake_27 (M_toMake_27L k58 n) k58
def M_toMake_58 (k2 : Int → gS → gA) (l1 l2 : Int) (s : gS) : gA := if w32 l2 = 0 then (k2 (l1 + 1) s) else (some (l1, s))
def M_toMake_24 (k2 : Int → gS → gA) (l1 t0 : Int) (s : gS) : gA := (M_toMake_27L (M_toMake_58 k2) gFu) l1 t0 0 s
def M_toMake_2 (k2 : Int → gS → gA) (l1 : Int) (s : gS) : gA := if w32 (s 49 44) ≤ w32 l1 then (some ((-1), s)) else (if 0 ≤ w32 l1 ∧ w32 l1 < 40 then (if w32 (s 73 (w32 l1).toNat) = 0 then ((M_toMake_24 k2) l1 1 s) else ((M_toMake_24 k2) l1 0 s)) else none)
def M_toMake_2L : Nat → Int → gS → gA
  | 0 => fun _ _ => none
  | n + 1 => M_toMake_2 (M_toMake_2L n)
def M_toMake (s : gS) : gA := (M_toMake_2L gFu) 0 s
-- BandPressModel.insideMany()I (49,)
def M_insideMany_25 (k4 : Int → Int → gS → gA) (l2 t0 t1 : Int) (s : gS) : gA := g_le (t0 + t1) fun v4 => (k4 v4 (l2 + 1) s)
def M_insideMany_4 (k4 : Int → Int → gS → gA) (l1 l2 : Int) (s : gS) : gA := if 4 ≤ w32 l2 then (some (l1, s)) else (if 0 ≤ w32 l2 ∧ w32 l2 < 4 then (if w32 (s 67 (w32 l2).toNat) = (-1) then ((M_insideMany_25 k4) l2 l1 0 s) else ((M_insideMany_25 k4) l2 l1 1 s)) else none)
def M_insideMany_4L : Nat → Int → Int → gS → gA
  | 0 => fun _ _ _ => none
  | n + 1 => M_insideMany_4 (M_insideMany_4L n)
def M_insideMany (s : gS) : gA := (M_insideMany_4L gFu) 0 0 s
-- BandPressModel.feed()V (49,)
def M_feed (s : gS) : gA := g_bi (M_toMake s) fun r1 s2 => (if w32 (s2 67 0) = (-1) then (if w32 (s2 67 3) = (-1) then (g_bi (M_insideMany s2) fun r6 s7 => (if 1 < w32 r6 then (some (0, s7)) else (if w32 (s7 49 40) = 0 then (some (0, s7)) else (if w32 r1 = (-1) then (some (0, s7)) else (g_le (g_up s7 49 40 ((s7 49 40) - 1)) fun s12 => g_le (g_up s12 67 0 r1) fun s14 => g_le (g_up s14 68 0 0) fun s16 => g_le (g_up s16 69 0 0) fun s18 => (some (0, s18))))))) else (some (0, s2))) else (some (0, s2)))
-- BandPressModel.cell(II)I ()
def M_cell_63 (l2 t0 : Int) (s : gS) : gA := some ((4 * l2) + t0, s)
def M_cell_31 (l0 l1 t0 : Int) (s : gS) : gA := if w32 (i_and l1 2) = 0 then (if w32 (i_and l0 2) = 0 then (M_cell_63 t0 0 s) else (M_cell_63 t0 2 s)) else (if w32 (i_and l0 2) = 0 then (M_cell_63 t0 3 s) else (M_cell_63 t0 1 s))
def M_cell (a0 a1 : Int) (s : gS) : gA := if w32 (i_and a1 1) = 0 then (if w32 (i_and a0 1) = 0 then (M_cell_31 a0 a1 0 s) else (M_cell_31 a0 a1 2 s)) else (if w32 (i_and a0 1) = 0 then (M_cell_31 a0 a1 3 s) else (M_cell_31 a0 a1 1 s))
-- BandPressModel.fill(Z)V (49,)
def M_fill_67 (k16 : Int → gS → gA) (l2 : Int) (s : gS) : gA := k16 (l2 + 1) s
def M_fill_66 (k16 : Int → gS → gA) (l2 t1 t2 : Int) (s : gS) : gA := if 0 ≤ w32 t1 ∧ w32 t1 < 27648 then g_le (g_up s 64 (w32 t1).toNat (i_nar .boolean t2)) fun s19 => ((M_fill_67 k16) l2 s19) else none
def M_fill_16 (k16 : Int → gS → gA) (l2 : Int) (s : gS) : gA := if 3072 ≤ w32 l2 then (g_bi (M_noPath s) fun _ s8 => (some (0, s8))) else (if 0 ≤ w32 l2 ∧ w32 l2 < 3072 then (if w32 (s 65 (w32 l2).toNat) = 0 then ((M_fill_67 k16) l2 s) else (g_bi (M_cell (i_rem l2 64) (i_div l2 64) s) fun r14 s15 => (if w32 (s15 62 4) ≤ w32 r14 then ((M_fill_66 k16) l2 (24576 + l2) 0 s15) else ((M_fill_66 k16) l2 (24576 + l2) 1 s15)))) else none)
def M_fill_16L : Nat → Int → gS → gA
  | 0 => fun _ _ => none
  | n + 1 => M_fill_16 (M_fill_16L n)
def M_fill (a1 : Int) (s : gS) : gA := g_bi (M_look a1 s) fun r1 s2 => g_le (g_up s2 49 36 ((s 49 36) + r1)) fun s4 => ((M_fill_16L gFu) 0 s4)
-- BandPressModel.sidesOf()I (49,)
def M_sidesOf (s : gS) : gA := if w32 (s 49 12) = 0 then (some (1, s)) else (some (2, s))
-- BandPressModel.goes(I)Z (49,)
def M_goes (a1 : Int) (s : gS) : gA := if 0 ≤ w32 a1 ∧ w32 a1 < 4 then (if w32 (s 67 (w32 a1).toNat) = (-1) then (some (0, s)) else (if 0 ≤ w32 a1 ∧ w32 a1 < 4 then (if w32 (s 72 (w32 a1).toNat) = 0 then (if w32 a1 = 0 then (if w32 (s 67 1) = (-1) then (if w32 (s 49 41) < 80 then (some (0, s)) else (some (1, s))) else (some (0, s))) else (if w32 a1 = 1 then (if w32 (s 67 2) = (-1) then (some (1, s)) else (some (0, s))) else (if w32 a1 = 2 then (g_bi (M_sidesOf s) fun r11 s12 => (if w32 (s 68 2) = w32 r11 then (some (1, s12)) else (if w32 (s12 67 3) = (-1) then (some (1, s12)) else (some (0, s12))))) else (if w32 (s 67 0) = (-1) then (some (1, s)) else (some (0, s)))))) else (some (0, s))) else none)) else none
-- BandPressModel.job(I)I (49,)
def M_job (a1 : Int) (s : gS) : gA := g_le (g_up s 49 0 0) fun s1 => (if w32 a1 = 0 then (some (s1 49 5, s1)) else (if w32 a1 = 1 then (some (s1 49 6, s1)) else (if w32 a1 = 2 then (some (s1 49 7, s1)) else (if w32 a1 = 3 then (some (s1 49 8, s1)) else (if w32 a1 = 4 then (some (s1 49 9, s1)) else (if w32 a1 = 5 then (some (s1 49 36, s1)) else (if w32 a1 = 6 then (some (s1 49 13, s1)) else (if w32 a1 = 7 then (some (s1 49 22, s1)) else (if w32 a1 = 8 then (some (s1 62 4, s1)) else (some ((-1), s1)))))))))))
-- BandPressModel.load(I)I (49,)
def M_load (a1 : Int) (s : gS) : gA := g_le (g_up s 49 0 0) fun s1 => (if w32 a1 < 1 then (some ((-1), s1)) else (if 200 < w32 a1 then (some ((-1), s1)) else (if w32 ((s1 49 40) + a1) ≤ 500 then (g_le (g_up s1 49 40 ((s1 49 40) + a1)) fun s6 => (some (s6 49 40, s6))) else (some ((-1), s1)))))
-- BandPressModel.next()I (49,)
def M_next_14 (k14 : Int → gS → gA) (k58 : Int → gS → gA) (l1 : Int) (s : gS) : gA := if 0 ≤ w32 l1 ∧ w32 l1 < 22 then if 0 ≤ w32 l1 ∧ w32 l1 < 22 then (if w32 (s 56 (w32 l1).toNat) ≤ w32 (s 55 (w32 l1).toNat) then (k58 l1 s) else (if 0 ≤ w32 l1 ∧ w32 l1 < 22 then if 0 ≤ w32 (s 55 (w32 l1).toNat) ∧ w32 (s 55 (w32 l1).toNat) < 300 then (if w32 (s 51 (w32 (s 55 (w32 l1).toNat)).toNat) = 32 then (if 0 ≤ w32 l1 ∧ w32 l1 < 22 then if 0 ≤ w32 l1 ∧ w32 l1 < 22 then g_le (g_up s 55 (w32 l1).toNat ((s 55 (w32 l1).toNat) + 1)) fun s12 => (k14 l1 s12) else none else none) else (k58 l1 s)) else none else none)) else none else none
def M_next_14L (k58 : Int → gS → gA) : Nat → Int → gS → gA
  | 0 => fun _ _ => none
  | n + 1 => M_next_14 (M_next_14L k58 n) k58
def M_next_125 (k0 : gS → gA) (s : gS) : gA := k0 s
def M_next_58 (k0 : gS → gA) (l1 : Int) (s : gS) : gA := if 0 ≤ w32 l1 ∧ w32 l1 < 22 then if 0 ≤ w32 l1 ∧ w32 l1 < 22 then (if w32 (s 56 (w32 l1).toNat) ≤ w32 (s 55 (w32 l1).toNat) then (if 0 ≤ w32 l1 ∧ w32 l1 < 22 then (if w32 (s 58 (w32 l1).toNat) ≤ 1 then (g_le (g_up s 49 17 ((s 49 17) - 1)) fun s19 => ((M_next_125 k0) s19)) else (if 0 ≤ w32 l1 ∧ w32 l1 < 22 then if 0 ≤ w32 l1 ∧ w32 l1 < 22 then g_le (g_up s 58 (w32 l1).toNat ((s 58 (w32 l1).toNat) - 1)) fun s23 => if 0 ≤ w32 l1 ∧ w32 l1 < 22 then if 0 ≤ w32 l1 ∧ w32 l1 < 22 then g_le (g_up s23 55 (w32 l1).toNat (s23 57 (w32 l1).toNat)) fun s27 => ((M_next_125 k0) s27) else none else none else none else none)) else none) else (if 0 ≤ w32 l1 ∧ w32 l1 < 22 then (some (s 55 (w32 l1).toNat, s)) else none)) else none else none
def M_next_0 (k0 : gS → gA) (s : gS) : gA := if w32 (s 49 17) ≤ 0 then (some ((-1), s)) else (g_le ((s 49 17) - 1) fun v2 => ((M_next_14L (M_next_58 k0) gFu) v2 s))
def M_next_0L : Nat → gS → gA
  | 0 => fun _ => none
  | n + 1 => M_next_0 (M_next_0L n)
def M_next (s : gS) : gA := (M_next_0L gFu) s
-- BandPressModel.octet(III)I (49,)
def M_octet (a1 a2 a3 : Int) (s : gS) : gA := g_le (g_up s 49 0 0) fun s1 => g_bi (M_pack a1 a2 s1) fun r3 s4 => (if w32 r3 = 0 then (some ((-1), s4)) else (if w32 a3 < 0 then (some ((-1), s4)) else (if w32 (s4 49 39) ≤ w32 a3 then (some ((-1), s4)) else (if 0 ≤ w32 a3 ∧ w32 a3 < 640 then (some (s4 66 (w32 a3).toNat, s4)) else none))))
-- BandPressModel.swap()V (49,)
def M_swap (s : gS) : gA := if 0 ≤ w32 ((s 49 13) - 1) ∧ w32 ((s 49 13) - 1) < 33 then g_le (s 52 (w32 ((s 49 13) - 1)).toNat) fun v2 => if 0 ≤ w32 ((s 49 13) - 1) ∧ w32 ((s 49 13) - 1) < 33 then g_le (s 54 (w32 ((s 49 13) - 1)).toNat) fun v5 => if 0 ≤ w32 ((s 49 13) - 2) ∧ w32 ((s 49 13) - 2) < 33 then if 0 ≤ w32 ((s 49 13) - 1) ∧ w32 ((s 49 13) - 1) < 33 then g_le (g_up s 52 (w32 ((s 49 13) - 1)).toNat (s 52 (w32 ((s 49 13) - 2)).toNat)) fun s9 => if 0 ≤ w32 ((s9 49 13) - 2) ∧ w32 ((s9 49 13) - 2) < 33 then if 0 ≤ w32 ((s9 49 13) - 1) ∧ w32 ((s9 49 13) - 1) < 33 then g_le (g_up s9 54 (w32 ((s9 49 13) - 1)).toNat (i_nar .boolean (s9 54 (w32 ((s9 49 13) - 2)).toNat))) fun s13 => if 0 ≤ w32 ((s13 49 13) - 2) ∧ w32 ((s13 49 13) - 2) < 33 then g_le (g_up s13 52 (w32 ((s13 49 13) - 2)).toNat v2) fun s16 => if 0 ≤ w32 ((s16 49 13) - 2) ∧ w32 ((s16 49 13) - 2) < 33 then g_le (g_up s16 54 (w32 ((s16 49 13) - 2)).toNat (i_nar .boolean v5)) fun s19 => (some (0, s19)) else none else none else none else none else none else none else none else none
-- BandPressModel.repeat()V (49,)
def M_repeat (s : gS) : gA := g_bi (M_number 0 s) fun r1 s2 => g_bi (M_number 1 s2) fun r4 s5 => g_le (g_up s5 49 13 ((s5 49 13) - 2)) fun s7 => (if w32 r4 ≤ 0 then (some (0, s7)) else (g_bi (M_closing r1 s7) fun r10 s11 => g_bi (M_enter (r1 + 1) r10 r4 s11) fun _ s14 => (some (0, s14))))
-- BandPressModel.quit()V (49,)
def M_quit_0 (k0 : gS → gA) (s : gS) : gA := if 0 ≤ w32 ((s 49 17) - 1) ∧ w32 ((s 49 17) - 1) < 22 then (if w32 (s 58 (w32 ((s 49 17) - 1)).toNat) = (-1) then (g_le (g_up s 49 17 ((s 49 17) - 1)) fun s5 => (k0 s5)) else (g_le (g_up s 49 17 ((s 49 17) - 1)) fun s3 => (some (0, s3)))) else none
def M_quit_0L : Nat → gS → gA
  | 0 => fun _ => none
  | n + 1 => M_quit_0 (M_quit_0L n)
def M_quit (s : gS) : gA := (M_quit_0L gFu) s
-- BandPressModel.push(IZ)V (49,)
def M_push (a1 a2 : Int) (s : gS) : gA := if 0 ≤ w32 (s 49 13) ∧ w32 (s 49 13) < 33 then g_le (g_up s 52 (w32 (s 49 13)).toNat a1) fun s2 => if 0 ≤ w32 (s2 49 13) ∧ w32 (s2 49 13) < 33 then g_le (g_up s2 54 (w32 (s2 49 13)).toNat (i_nar .boolean a2)) fun s5 => g_le (g_up s5 49 13 ((s5 49 13) + 1)) fun s7 => (some (0, s7)) else none else none
-- BandPressModel.state(I)V (49,)
def M_state_199 (k199 : Int → gS → gA) (k232 : gS → gA) (l6 : Int) (s : gS) : gA := if 5 ≤ w32 l6 then (k232 s) else (if 0 ≤ w32 l6 ∧ w32 l6 < 25 then if 0 ≤ w32 ((5 * (s 49 32)) + l6) ∧ w32 ((5 * (s 49 32)) + l6) < 25 then g_le (g_up s 62 (w32 ((5 * (s 49 32)) + l6)).toNat (s 62 (w32 l6).toNat)) fun s52 => (k199 (l6 + 1) s52) else none else none)
def M_state_199L (k232 : gS → gA) : Nat → Int → gS → gA
  | 0 => fun _ _ => none
  | n + 1 => M_state_199 (M_state_199L k232 n) k232
def M_state_235 (k235 : Int → gS → gA) (l6 : Int) (s : gS) : gA := if 3072 ≤ w32 l6 then (some (0, s)) else (if 0 ≤ w32 l6 ∧ w32 l6 < 15360 then if 0 ≤ w32 ((3072 * (s 49 32)) + l6) ∧ w32 ((3072 * (s 49 32)) + l6) < 15360 then g_le (g_up s 63 (w32 ((3072 * (s 49 32)) + l6)).toNat (i_nar .boolean (s 63 (w32 l6).toNat))) fun s57 => (k235 (l6 + 1) s57) else none else none)
def M_state_235L : Nat → Int → gS → gA
  | 0 => fun _ _ => none
  | n + 1 => M_state_235 (M_state_235L n)
def M_state_232 (s : gS) : gA := (M_state_235L gFu) 0 s
def M_state_278 (k278 : Int → gS → gA) (k311 : gS → gA) (l6 : Int) (s : gS) : gA := if 5 ≤ w32 l6 then (k311 s) else (if 0 ≤ w32 ((5 * (s 49 32)) + l6) ∧ w32 ((5 * (s 49 32)) + l6) < 25 then if 0 ≤ w32 l6 ∧ w32 l6 < 25 then g_le (g_up s 62 (w32 l6).toNat (s 62 (w32 ((5 * (s 49 32)) + l6)).toNat)) fun s62 => (k278 (l6 + 1) s62) else none else none)
def M_state_278L (k311 : gS → gA) : Nat → Int → gS → gA
  | 0 => fun _ _ => none
  | n + 1 => M_state_278 (M_state_278L k311 n) k311
def M_state_314 (k314 : Int → gS → gA) (k351 : gS → gA) (l6 : Int) (s : gS) : gA := if 3072 ≤ w32 l6 then (k351 s) else (if 0 ≤ w32 ((3072 * (s 49 32)) + l6) ∧ w32 ((3072 * (s 49 32)) + l6) < 15360 then if 0 ≤ w32 l6 ∧ w32 l6 < 15360 then g_le (g_up s 63 (w32 l6).toNat (i_nar .boolean (s 63 (w32 ((3072 * (s 49 32)) + l6)).toNat))) fun s67 => (k314 (l6 + 1) s67) else none else none)
def M_state_314L (k351 : gS → gA) : Nat → Int → gS → gA
  | 0 => fun _ _ => none
  | n + 1 => M_state_314 (M_state_314L k351 n) k351
def M_state_351 (s : gS) : gA := g_le (g_up s 49 32 ((s 49 32) - 1)) fun s69 => (some (0, s69))
def M_state_311 (s : gS) : gA := (M_state_314L M_state_351 gFu) 0 s
def M_state_367 (k367 : Int → gS → gA) (k420 : gS → gA) (l6 : Int) (s : gS) : gA := if 3072 ≤ w32 l6 then (k420 s) else (if 0 ≤ w32 (24576 + l6) ∧ w32 (24576 + l6) < 27648 then if 0 ≤ w32 ((3072 * (s 49 8)) + l6) ∧ w32 ((3072 * (s 49 8)) + l6) < 27648 then g_le (g_up s 64 (w32 ((3072 * (s 49 8)) + l6)).toNat (i_nar .boolean (s 64 (w32 (24576 + l6)).toNat))) fun s74 => if 0 ≤ w32 (24576 + l6) ∧ w32 (24576 + l6) < 27648 then g_le (g_up s74 64 (w32 (24576 + l6)).toNat (i_nar .boolean 0)) fun s77 => (k367 (l6 + 1) s77) else none else none else none)
def M_state_367L (k420 : gS → gA) : Nat → Int → gS → gA
  | 0 => fun _ _ => none
  | n + 1 => M_state_367 (M_state_367L k420 n) k420
def M_state_420 (s : gS) : gA := g_le (g_up s 49 8 ((s 49 8) + 1)) fun s79 => g_le (g_up s79 49 36 0) fun s81 => g_bi (M_noPath s81) fun _ s84 => (some (0, s84))
def M_state (a1 : Int) (s : gS) : gA := if w32 a1 = 71 then (g_le (g_up s 49 13 ((s 49 13) - 1)) fun s6 => if 0 ≤ w32 (s6 49 13) ∧ w32 (s6 49 13) < 33 then g_le (g_up s6 62 4 (s6 52 (w32 (s6 49 13)).toNat)) fun s9 => (some (0, s9)) else none) else (if w32 a1 = 83 then (g_bi (M_number 1 s) fun r11 s12 => g_bi (M_sixteenth (s 62 0) r11 s12) fun r14 s15 => g_le (g_up s15 62 0 r14) fun s17 => g_bi (M_number 0 s17) fun r19 s20 => g_bi (M_sixteenth (s17 62 1) r19 s20) fun r22 s23 => g_le (g_up s23 62 1 r22) fun s25 => g_le (g_up s25 49 13 ((s25 49 13) - 2)) fun s27 => (some (0, s27))) else (if w32 a1 = 84 then (g_bi (M_number 1 s) fun r29 s30 => g_bi (M_xOf r29 s30) fun r32 s33 => g_bi (M_number 0 s33) fun r35 s36 => g_bi (M_yOf r35 s36) fun r38 s39 => g_le (g_up s39 62 2 r32) fun s41 => g_le (g_up s41 62 3 r38) fun s43 => g_le (g_up s43 49 13 ((s43 49 13) - 2)) fun s45 => (some (0, s45))) else (if w32 a1 = 85 then (g_le (g_up s 49 32 ((s 49 32) + 1)) fun s47 => ((M_state_199L M_state_232 gFu) 0 s47)) else (if w32 a1 = 86 then ((M_state_278L M_state_311 gFu) 0 s) else ((M_state_367L M_state_420 gFu) 0 s)))))
-- BandPressModel.order(I)V (49,)
def M_order_345 (l1 : Int) (s : gS) : gA := g_bi (M_draw l1 s) fun _ s62 => (some (0, s62))
def M_order_406 (t1 : Int) (s : gS) : gA := g_bi (M_fill t1 s) fun _ s71 => (some (0, s71))
def M_order_394 (l1 : Int) (s : gS) : gA := if w32 l1 = 70 then (M_order_406 1 s) else (M_order_406 0 s)
def M_order_419 (l1 : Int) (s : gS) : gA := g_bi (M_state l1 s) fun _ s74 => (some (0, s74))
def M_order (a1 : Int) (s : gS) : gA := if w32 a1 = 67 then (M_order_345 a1 s) else (if w32 a1 = 68 then (if 0 ≤ w32 ((s 49 13) - 1) ∧ w32 ((s 49 13) - 1) < 33 then if 0 ≤ w32 ((s 49 13) - 1) ∧ w32 ((s 49 13) - 1) < 33 then g_bi (M_push (s 52 (w32 ((s 49 13) - 1)).toNat) (s 54 (w32 ((s 49 13) - 1)).toNat) s) fun _ s67 => (some (0, s67)) else none else none) else (if w32 a1 = 69 then (M_order_394 a1 s) else (if w32 a1 = 70 then (M_order_394 a1 s) else (if w32 a1 = 71 then (M_order_419 a1 s) else (if w32 a1 = 72 then (M_order_419 a1 s) else (if w32 a1 = 73 then (M_order_419 a1 s) else (if w32 a1 = 74 then (M_order_419 a1 s) else (if w32 a1 = 75 then (M_order_419 a1 s) else (if w32 a1 = 76 then (M_order_345 a1 s) else (if w32 a1 = 77 then (M_order_345 a1 s) else (if w32 a1 = 78 then (g_bi (M_noPath s) fun _ s77 => (some (0, s77))) else (if w32 a1 = 79 then (g_le (g_up s 49 13 ((s 49 13) - 1)) fun s79 => (some (0, s79))) else (if w32 a1 = 80 then (M_order_419 a1 s) else (if w32 a1 = 81 then (g_bi (M_quit s) fun _ s82 => (some (0, s82))) else (if w32 a1 = 82 then (g_bi (M_repeat s) fun _ s85 => (some (0, s85))) else (if w32 a1 = 83 then (M_order_419 a1 s) else (if w32 a1 = 84 then (M_order_419 a1 s) else (if w32 a1 = 85 then (M_order_419 a1 s) else (if w32 a1 = 86 then (M_order_419 a1 s) else (if w32 a1 = 87 then (g_bi (M_cut s) fun _ s88 => (some (0, s88))) else (if w32 a1 = 88 then (g_bi (M_swap s) fun _ s91 => (some (0, s91))) else (if w32 a1 = 89 then (M_order_419 a1 s) else (if w32 a1 = 90 then (if w32 (s 49 28) = 0 then (g_le (g_up s 49 28 1) fun s94 => g_le (g_up s94 49 23 (s94 49 25)) fun s96 => g_le (g_up s96 49 24 (s96 49 26)) fun s98 => (some (0, s98))) else (some (0, s))) else (if w32 a1 = 91 then (M_order_419 a1 s) else (if w32 a1 = 92 then (M_order_419 a1 s) else (if w32 a1 = 93 then (M_order_419 a1 s) else (if w32 a1 = 94 then (M_order_419 a1 s) else (if w32 a1 = 95 then (M_order_419 a1 s) else (if w32 a1 = 96 then (M_order_419 a1 s) else (if w32 a1 = 97 then (M_order_419 a1 s) else (if w32 a1 = 98 then (M_order_419 a1 s) else (if w32 a1 = 99 then (M_order_419 a1 s) else (if w32 a1 = 100 then (M_order_419 a1 s) else (if w32 a1 = 101 then (M_order_419 a1 s) else (if w32 a1 = 102 then (M_order_419 a1 s) else (if w32 a1 = 103 then (M_order_419 a1 s) else (if w32 a1 = 104 then (M_order_419 a1 s) else (if w32 a1 = 105 then (M_order_419 a1 s) else (if w32 a1 = 106 then (M_order_419 a1 s) else (if w32 a1 = 107 then (M_order_419 a1 s) else (if w32 a1 = 108 then (M_order_419 a1 s) else (if w32 a1 = 109 then (M_order_419 a1 s) else (if w32 a1 = 110 then (M_order_419 a1 s) else (if w32 a1 = 111 then (M_order_419 a1 s) else (if w32 a1 = 112 then (M_order_419 a1 s) else (if w32 a1 = 113 then (M_order_419 a1 s) else (if w32 a1 = 114 then (M_order_419 a1 s) else (if w32 a1 = 115 then (M_order_419 a1 s) else (if w32 a1 = 116 then (M_order_419 a1 s) else (if w32 a1 = 117 then (M_order_419 a1 s) else (if w32 a1 = 118 then (M_order_419 a1 s) else (if w32 a1 = 119 then (M_order_419 a1 s) else (if w32 a1 = 120 then (M_order_419 a1 s) else (if w32 a1 = 121 then (M_order_419 a1 s) else (if w32 a1 = 122 then (M_order_419 a1 s) else (if w32 a1 = 123 then (M_order_419 a1 s) else (if w32 a1 = 124 then (M_order_419 a1 s) else (if w32 a1 = 125 then (M_order_419 a1 s) else (if w32 a1 = 126 then (if 0 ≤ w32 ((s 49 13) - 1) ∧ w32 ((s 49 13) - 1) < 33 then if 0 ≤ w32 ((s 49 13) - 1) ∧ w32 ((s 49 13) - 1) < 33 then g_le (g_up s 52 (w32 ((s 49 13) - 1)).toNat (-(s 52 (w32 ((s 49 13) - 1)).toNat))) fun s102 => (some (0, s102)) else none else none) else (M_order_419 a1 s))))))))))))))))))))))))))))))))))))))))))))))))))))))))))))
-- BandPressModel.out(II)I (49,)
def M_out1_66 (l2 l3 l4 t0 : Int) (s : gS) : gA := if w32 l2 = 0 then (some (l3, s)) else (if w32 l2 = 1 then (if ¬ w32 l4 = 0 then (some (i_div l3 l4, s)) else none) else (if w32 l2 = 2 then (some (t0, s)) else (if w32 (s 49 12) = 0 then (some ((-1), s)) else (if w32 (s 49 8) ≤ w32 (t0 + 1) then (some ((-1), s)) else (some (t0 + 1, s))))))
def M_out1 (a1 a2 : Int) (s : gS) : gA := g_le (g_up s 49 0 0) fun s1 => (if w32 a1 < 0 then (some ((-1), s1)) else (if w32 (s1 49 45) ≤ w32 a1 then (some ((-1), s1)) else (if w32 a2 < 0 then (some ((-1), s1)) else (if w32 a2 ≤ 3 then (if 0 ≤ w32 a1 ∧ w32 a1 < 40 then g_le (s1 70 (w32 a1).toNat) fun v8 => if ¬ w32 (s1 49 11) = 0 then g_le (i_div (s1 49 44) (s1 49 11)) fun v11 => (if w32 (s1 49 12) = 0 then (if ¬ w32 v11 = 0 then (M_out1_66 a2 v8 v11 (i_rem v8 v11) s1) else none) else (if ¬ w32 v11 = 0 then (M_out1_66 a2 v8 v11 ((i_rem v8 v11) * 2) s1) else none)) else none else none) else (some ((-1), s1))))))
-- BandPressModel.isPixel(II)Z ()
def M_isPixel (a0 a1 : Int) (s : gS) : gA := if w32 a0 < 0 then (some (0, s)) else (if 64 ≤ w32 a0 then (some (0, s)) else (if w32 a1 < 0 then (some (0, s)) else (if 48 ≤ w32 a1 then (some (0, s)) else (some (1, s)))))
-- BandPressModel.pixel(III)Z (49,)
def M_pixel_44 (l2 l3 t1 t2 : Int) (s : gS) : gA := if 0 ≤ w32 (((t1 * t2) + (64 * l3)) + l2) ∧ w32 (((t1 * t2) + (64 * l3)) + l2) < 27648 then (if w32 (s 64 (w32 (((t1 * t2) + (64 * l3)) + l2)).toNat) = 0 then (some (0, s)) else (some (1, s))) else none
def M_pixel (a1 a2 a3 : Int) (s : gS) : gA := g_le (g_up s 49 0 0) fun s1 => (if w32 a1 < (-1) then (some (0, s1)) else (if w32 (s1 49 8) ≤ w32 a1 then (some (0, s1)) else (g_bi (M_isPixel a2 a3 s1) fun r5 s6 => (if w32 r5 = 0 then (some (0, s6)) else (if w32 a1 = (-1) then (M_pixel_44 a2 a3 3072 8 s6) else (M_pixel_44 a2 a3 3072 a1 s6))))))
-- BandPressModel.stateOf()I (49,)
def M_stateOf_49 (s : gS) : gA := if 80 ≤ w32 (s 49 41) then (some (2, s)) else (some (1, s))
def M_stateOf (s : gS) : gA := if w32 (s 49 46) = 0 then (if w32 (s 49 47) = 0 then (if w32 (s 49 45) < w32 (s 49 44) then (g_bi (M_insideMany s) fun r4 s5 => (if w32 r4 = 0 then (if w32 (s5 49 40) = 0 then (some (4, s5)) else (M_stateOf_49 s5)) else (M_stateOf_49 s5))) else (some (0, s))) else (some (3, s))) else (some (5, s))
-- BandPressModel.press(I)I (49,)
def M_press (a1 : Int) (s : gS) : gA := g_le (g_up s 49 0 0) fun s1 => (if w32 a1 = 0 then (g_bi (M_stateOf s1) fun r10 s11 => (some (r10, s11))) else (if w32 a1 = 1 then (some (s1 49 41, s1)) else (if w32 a1 = 2 then (some (s1 49 40, s1)) else (if w32 a1 = 3 then (some (s1 49 45, s1)) else (if w32 a1 = 4 then (if w32 (s1 49 5) = 2 then (some (s1 49 44, s1)) else (some (0, s1))) else (if w32 a1 = 5 then (some (s1 49 42, s1)) else (if w32 a1 = 6 then (some (s1 49 43, s1)) else (some ((-1), s1)))))))))
-- BandPressModel.reckon(I)V (49,)
def M_reckon_154 (t1 : Int) (s : gS) : gA := g_bi (M_push t1 0 s) fun _ s23 => (some (0, s23))
def M_reckon_172 (t1 : Int) (s : gS) : gA := g_bi (M_push t1 0 s) fun _ s27 => (some (0, s27))
def M_reckon_69 (l1 t0 : Int) (s : gS) : gA := g_bi (M_number 0 s) fun r3 s4 => g_bi (M_result l1 s4) fun r6 s7 => g_bi (M_needs l1 s7) fun r9 s10 => g_le (g_up s10 49 13 ((s7 49 13) - r9)) fun s12 => (if w32 l1 = 37 then (if ¬ w32 r3 = 0 then g_bi (M_push (i_rem t0 r3) 0 s12) fun _ s19 => (some (0, s19)) else none) else (if w32 l1 = 60 then (if w32 r3 ≤ w32 t0 then (M_reckon_154 0 s12) else (M_reckon_154 1 s12)) else (if w32 l1 = 61 then (if w32 t0 = w32 r3 then (M_reckon_172 1 s12) else (M_reckon_172 0 s12)) else (g_bi (M_push r6 0 s12) fun _ s30 => (some (0, s30))))))
def M_reckon_27 (t0 : Int) (s : gS) : gA := g_le (g_up s 49 13 ((s 49 13) - 3)) fun s42 => g_bi (M_closing t0 s42) fun r44 s45 => g_bi (M_enter (t0 + 1) r44 (-1) s45) fun _ s48 => (some (0, s48))
def M_reckon (a1 : Int) (s : gS) : gA := if w32 a1 = 63 then (g_bi (M_number 2 s) fun r35 s36 => (if w32 r35 = 0 then (g_bi (M_number 0 s36) fun r39 s40 => (M_reckon_27 r39 s40)) else (g_bi (M_number 1 s36) fun r50 s51 => (M_reckon_27 r50 s51)))) else (if w32 (s 49 13) ≤ 1 then (M_reckon_69 a1 0 s) else (g_bi (M_number 1 s) fun r32 s33 => (M_reckon_69 a1 r32 s33)))
-- BandPressModel.wordLong(I)I (49,)
def M_wordLong_36 (k36 : Int → Int → gS → gA) (l1 l2 : Int) (s : gS) : gA := if 0 ≤ w32 l1 ∧ w32 l1 < 300 then g_bi (M_isDigit (s 51 (w32 l1).toNat) s) fun r6 s7 => (if w32 r6 = 0 then (some (l2, s7)) else (if w32 (s7 49 4) ≤ w32 (l1 + l2) then (some (l2, s7)) else (if 0 ≤ w32 (l1 + l2) ∧ w32 (l1 + l2) < 300 then g_bi (M_isDigit (s7 51 (w32 (l1 + l2)).toNat) s7) fun r12 s13 => (if w32 r12 = 0 then (some (l2, s13)) else (k36 l1 (l2 + 1) s13)) else none))) else none
def M_wordLong_36L : Nat → Int → Int → gS → gA
  | 0 => fun _ _ _ => none
  | n + 1 => M_wordLong_36 (M_wordLong_36L n)
def M_wordLong (a1 : Int) (s : gS) : gA := if 0 ≤ w32 a1 ∧ w32 a1 < 300 then (if w32 (s 51 (w32 a1).toNat) = 123 then (g_bi (M_closing a1 s) fun r16 s17 => (some ((r16 - a1) + 1, s17))) else (if 0 ≤ w32 a1 ∧ w32 a1 < 300 then (if w32 (s 51 (w32 a1).toNat) = 58 then (some (2, s)) else ((M_wordLong_36L gFu) a1 1 s)) else none)) else none
-- BandPressModel.step(I)V (49,)
def M_step_215 (l2 : Int) (s : gS) : gA := g_bi (M_order l2 s) fun _ s31 => (some (0, s31))
def M_step_65 (k65 : Int → Int → Int → gS → gA) (k101 : Int → gS → gA) (l1 l4 l5 : Int) (s : gS) : gA := g_bi (M_wordLong l1 s) fun r51 s52 => (if w32 r51 ≤ w32 l5 then (k101 l4 s52) else (if 0 ≤ w32 (l1 + l5) ∧ w32 (l1 + l5) < 300 then g_le (((10 * l4) + (s52 51 (w32 (l1 + l5)).toNat)) - 48) fun v56 => (k65 l1 v56 (l5 + 1) s52) else none))
def M_step_65L (k101 : Int → gS → gA) : Nat → Int → Int → Int → gS → gA
  | 0 => fun _ _ _ _ => none
  | n + 1 => M_step_65 (M_step_65L k101 n) k101
def M_step_101 (l4 : Int) (s : gS) : gA := g_bi (M_push l4 0 s) fun _ s59 => (some (0, s59))
def M_step (a1 : Int) (s : gS) : gA := if 0 ≤ w32 a1 ∧ w32 a1 < 300 then g_le (s 51 (w32 a1).toNat) fun v2 => g_bi (M_errorOf v2 s) fun r4 s5 => (if w32 r4 ≤ 0 then (g_le (g_up s5 49 9 ((s5 49 9) + 1)) fun s8 => g_bi (M_wordLong a1 s8) fun r10 s11 => if 0 ≤ w32 ((s8 49 17) - 1) ∧ w32 ((s8 49 17) - 1) < 22 then g_le (g_up s11 55 (w32 ((s8 49 17) - 1)).toNat (a1 + r10)) fun s14 => g_bi (M_isDigit v2 s14) fun r16 s17 => (if w32 r16 = 0 then (g_bi (M_isLetter v2 s17) fun r20 s21 => (if w32 r20 = 0 then (if w32 v2 = 123 then (g_bi (M_push a1 1 s21) fun _ s45 => (some (0, s45))) else (if w32 v2 = 58 then (g_le (g_up s21 49 13 ((s21 49 13) - 1)) fun s37 => if 0 ≤ w32 (a1 + 1) ∧ w32 (a1 + 1) < 300 then if 0 ≤ w32 (s37 49 13) ∧ w32 (s37 49 13) < 33 then if 0 ≤ w32 ((s37 51 (w32 (a1 + 1)).toNat) - 97) ∧ w32 ((s37 51 (w32 (a1 + 1)).toNat) - 97) < 26 then g_le (g_up s37 53 (w32 ((s37 51 (w32 (a1 + 1)).toNat) - 97)).toNat (s37 52 (w32 (s37 49 13)).toNat)) fun s42 => (some (0, s42)) else none else none else none) else (g_bi (M_needs v2 s21) fun r26 s27 => (if w32 r26 ≤ 0 then (M_step_215 v2 s27) else (if 65 ≤ w32 v2 then (M_step_215 v2 s27) else (g_bi (M_reckon v2 s27) fun _ s35 => (some (0, s35)))))))) else (if 0 ≤ w32 (v2 - 97) ∧ w32 (v2 - 97) < 26 then g_bi (M_push (s21 53 (w32 (v2 - 97)).toNat) 0 s21) fun _ s49 => (some (0, s49)) else none))) else ((M_step_65L M_step_101 gFu) a1 0 0 s17)) else none) else (g_bi (M_endJob r4 a1 s5) fun _ s62 => (some (0, s62)))) else none
-- BandPressModel.run(I)I (49,)
def M_run_147 (k49 : Int → Int → gS → gA) (l2 t0 : Int) (s : gS) : gA := k49 l2 t0 s
def M_run_116 (k49 : Int → Int → gS → gA) (l2 l3 t1 : Int) (s : gS) : gA := g_bi (M_endJob t1 l3 s) fun _ s26 => (k49 l2 l3 s26)
def M_run_66 (k49 : Int → Int → gS → gA) (l2 l3 : Int) (s : gS) : gA := if w32 l3 = (-1) then (g_bi (M_endJob 0 0 s) fun _ s29 => (k49 l2 l3 s29)) else (if w32 (s 49 9) = w32 (s 49 10) then (if 0 ≤ w32 l3 ∧ w32 l3 < 300 then g_bi (M_errorOf (s 51 (w32 l3).toNat) s) fun r21 s22 => (if w32 r21 ≤ 0 then ((M_run_116 k49) l2 l3 12 s22) else ((M_run_116 k49) l2 l3 r21 s22)) else none) else (g_bi (M_step l3 s) fun _ s14 => (if w32 (s14 49 5) = 1 then (g_bi (M_next s14) fun r17 s18 => ((M_run_147 k49) (l2 + (-1)) r17 s18)) else ((M_run_147 k49) (l2 + (-1)) (-1) s14))))
def M_run_49 (k49 : Int → Int → gS → gA) (k151 : gS → gA) (l2 l3 : Int) (s : gS) : gA := if w32 (s 49 5) = 1 then (if w32 l3 = (-1) then ((M_run_66 k49) l2 l3 s) else (if w32 l2 ≤ 0 then (k151 s) else ((M_run_66 k49) l2 l3 s))) else (k151 s)
def M_run_49L (k151 : gS → gA) : Nat → Int → Int → gS → gA
  | 0 => fun _ _ _ => none
  | n + 1 => M_run_49 (M_run_49L k151 n) k151
def M_run_151 (s : gS) : gA := if w32 (s 49 5) = 1 then (some (0, s)) else (if w32 (s 49 6) = 0 then (some (1, s)) else (some (2, s)))
def M_run_30 (l1 t1 : Int) (s : gS) : gA := g_le (g_up s 49 0 t1) fun s3 => (if w32 (s3 49 0) = 0 then (g_bi (M_next s3) fun r6 s7 => ((M_run_49L M_run_151 gFu) l1 r6 s7)) else (some (0, s3)))
def M_run_25 (l1 : Int) (s : gS) : gA := M_run_30 l1 2 s
def M_run (a1 : Int) (s : gS) : gA := if w32 (s 49 5) = 1 then (if w32 a1 < 1 then (M_run_25 a1 s) else (if w32 a1 ≤ 5000 then (M_run_30 a1 0 s) else (M_run_25 a1 s))) else (M_run_30 a1 1 s)
-- BandPressModel.isSection(I)Z ()
def M_isSection (a0 : Int) (s : gS) : gA := if w32 a0 < 0 then (some (0, s)) else (if 4 ≤ w32 a0 then (some (0, s)) else (some (1, s)))
-- BandPressModel.section(II)I (49,)
def M_section (a1 a2 : Int) (s : gS) : gA := g_le (g_up s 49 0 0) fun s1 => g_bi (M_isSection a1 s1) fun r3 s4 => (if w32 r3 = 0 then (some ((-1), s4)) else (if w32 a2 = 0 then (if 0 ≤ w32 a1 ∧ w32 a1 < 4 then (some (s4 67 (w32 a1).toNat, s4)) else none) else (if w32 a2 = 1 then (if 0 ≤ w32 a1 ∧ w32 a1 < 4 then (some (s4 68 (w32 a1).toNat, s4)) else none) else (if w32 a2 = 2 then (if 0 ≤ w32 a1 ∧ w32 a1 < 4 then (if w32 (s4 71 (w32 a1).toNat) = 0 then (some (0, s4)) else (some (1, s4))) else none) else (some ((-1), s4))))))
-- BandPressModel.shift(II)V (49,)
def M_shift (a1 a2 : Int) (s : gS) : gA := if 0 ≤ w32 a1 ∧ w32 a1 < 4 then if 0 ≤ w32 a2 ∧ w32 a2 < 4 then g_le (g_up s 67 (w32 a2).toNat (s 67 (w32 a1).toNat)) fun s3 => if 0 ≤ w32 a1 ∧ w32 a1 < 4 then if 0 ≤ w32 a2 ∧ w32 a2 < 4 then g_le (g_up s3 68 (w32 a2).toNat (s3 68 (w32 a1).toNat)) fun s7 => if 0 ≤ w32 a2 ∧ w32 a2 < 4 then g_le (g_up s7 69 (w32 a2).toNat 0) fun s10 => if 0 ≤ w32 a2 ∧ w32 a2 < 4 then g_le (g_up s10 72 (w32 a2).toNat (i_nar .boolean 1)) fun s13 => g_bi (M_empty a1 s13) fun _ s16 => (some (0, s16)) else none else none else none else none else none else none
-- BandPressModel.start(IZI)I (49,)
def M_start_86 (k86 : Int → Int → Int → Int → gS → gA) (k115 : Int → Int → Int → gS → gA) (l1 l2 l3 l5 : Int) (s : gS) : gA := if w32 (s 49 4) ≤ w32 l5 then (k115 l1 l2 l3 s) else (if 0 ≤ w32 l5 ∧ w32 l5 < 300 then if 0 ≤ w32 l5 ∧ w32 l5 < 300 then g_le (g_up s 51 (w32 l5).toNat (s 50 (w32 l5).toNat)) fun s20 => (k86 l1 l2 l3 (l5 + 1) s20) else none else none)
def M_start_86L (k115 : Int → Int → Int → gS → gA) : Nat → Int → Int → Int → Int → gS → gA
  | 0 => fun _ _ _ _ _ => none
  | n + 1 => M_start_86 (M_start_86L k115 n) k115
def M_start_183 (k183 : Int → gS → gA) (k204 : gS → gA) (l5 : Int) (s : gS) : gA := if 26 ≤ w32 l5 then (k204 s) else (if 0 ≤ w32 l5 ∧ w32 l5 < 26 then g_le (g_up s 53 (w32 l5).toNat 0) fun s51 => (k183 (l5 + 1) s51) else none)
def M_start_183L (k204 : gS → gA) : Nat → Int → gS → gA
  | 0 => fun _ _ => none
  | n + 1 => M_start_183 (M_start_183L k204 n) k204
def M_start_249 (k249 : Int → gS → gA) (l5 : Int) (s : gS) : gA := if 3072 ≤ w32 l5 then (g_le (g_up s 49 17 0) fun s67 => g_bi (M_enter 0 (s67 49 4) (-1) s67) fun _ s70 => (some (0, s70))) else (if 0 ≤ w32 l5 ∧ w32 l5 < 15360 then g_le (g_up s 63 (w32 l5).toNat (i_nar .boolean 1)) fun s73 => if 0 ≤ w32 (24576 + l5) ∧ w32 (24576 + l5) < 27648 then g_le (g_up s73 64 (w32 (24576 + l5)).toNat (i_nar .boolean 0)) fun s76 => (k249 (l5 + 1) s76) else none else none)
def M_start_249L : Nat → Int → gS → gA
  | 0 => fun _ _ => none
  | n + 1 => M_start_249 (M_start_249L n)
def M_start_204 (s : gS) : gA := g_bi (M_noPath s) fun _ s54 => g_le (g_up s54 62 0 16) fun s56 => g_le (g_up s56 62 1 16) fun s58 => g_le (g_up s58 62 2 0) fun s60 => g_le (g_up s60 62 3 0) fun s62 => g_le (g_up s62 62 4 16) fun s64 => ((M_start_249L gFu) 0 s64)
def M_start_115 (l1 l2 l3 : Int) (s : gS) : gA := g_le (g_up s 49 11 l1) fun s22 => if w32 l2 = 0 ∨ w32 l2 = 1 then g_le (g_up s22 49 12 l2) fun s25 => g_le (g_up s25 49 10 l3) fun s27 => g_le (g_up s27 49 5 1) fun s29 => g_le (g_up s29 49 6 0) fun s31 => g_le (g_up s31 49 7 0) fun s33 => g_le (g_up s33 49 8 0) fun s35 => g_le (g_up s35 49 9 0) fun s37 => g_le (g_up s37 49 13 0) fun s39 => g_le (g_up s39 49 32 0) fun s41 => g_le (g_up s41 49 36 0) fun s43 => g_le (g_up s43 49 44 0) fun s45 => g_le (g_up s45 49 45 0) fun s47 => ((M_start_183L M_start_204 gFu) 0 s47) else none
def M_start (a1 a2 a3 : Int) (s : gS) : gA := g_le (g_up s 49 0 0) fun s1 => (if w32 a1 < 1 then (some ((-1), s1)) else (if 4 < w32 a1 then (some ((-1), s1)) else (if w32 a3 < 1 then (some ((-1), s1)) else (if 20000 < w32 a3 then (some ((-1), s1)) else (if w32 (s1 49 5) = 1 then (some ((-1), s1)) else (if w32 (s1 49 44) ≤ w32 (s1 49 45) then (g_bi (M_faultOf s1) fun r9 s10 => (if w32 r9 = (-1) then (g_le (g_up s10 49 4 (s10 49 3)) fun s13 => g_le (g_up s13 49 3 0) fun s15 => ((M_start_86L M_start_115 gFu) a1 a2 a3 0 s15)) else (g_le (g_up s10 49 3 0) fun s78 => (some (1 + r9, s78))))) else (some ((-1), s1))))))))
-- BandPressModel.stick(IZ)Z (49,)
def M_stick (a1 a2 : Int) (s : gS) : gA := g_le (g_up s 49 0 0) fun s1 => g_bi (M_isSection a1 s1) fun r3 s4 => (if w32 r3 = 0 then (some (0, s4)) else (if 0 ≤ w32 a1 ∧ w32 a1 < 4 then g_le (g_up s4 71 (w32 a1).toNat (i_nar .boolean a2)) fun s8 => (some (1, s8)) else none))
-- BandPressModel.take(I)Z (49,)
def M_take_38 (l1 : Int) (s : gS) : gA := g_bi (M_empty l1 s) fun _ s11 => (some (1, s11))
def M_take (a1 : Int) (s : gS) : gA := g_le (g_up s 49 0 0) fun s1 => g_bi (M_isSection a1 s1) fun r3 s4 => (if w32 r3 = 0 then (some (0, s4)) else (if 0 ≤ w32 a1 ∧ w32 a1 < 4 then (if w32 (s4 67 (w32 a1).toNat) = (-1) then (some (0, s4)) else (if w32 (s4 49 46) = 0 then (if w32 (s4 49 47) = 0 then (some (0, s4)) else (M_take_38 a1 s4)) else (M_take_38 a1 s4))) else none))
-- BandPressModel.thrown()I (49,)
def M_thrown (s : gS) : gA := some (s 49 0, s)
-- BandPressModel.turn(I)Z (49,)
def M_turn_153 (t1 t2 : Int) (s : gS) : gA := g_bi (M_shift t1 t2 s) fun _ s11 => (some (0, s11))
def M_turn_139 (l1 : Int) (s : gS) : gA := if w32 l1 = 3 then (M_turn_153 l1 0 s) else (M_turn_153 l1 (l1 + 1) s)
def M_turn_76 (l1 : Int) (s : gS) : gA := if w32 l1 = 2 then (g_bi (M_sidesOf s) fun r13 s14 => (if w32 (s 68 2) = w32 r13 then (if 0 ≤ w32 (s14 49 45) ∧ w32 (s14 49 45) < 40 then g_le (g_up s14 70 (w32 (s14 49 45)).toNat (s14 67 2)) fun s18 => if 0 ≤ w32 (s18 67 2) ∧ w32 (s18 67 2) < 40 then g_le (g_up s18 73 (w32 (s18 67 2)).toNat (i_nar .boolean 1)) fun s21 => g_le (g_up s21 49 45 ((s21 49 45) + 1)) fun s23 => g_bi (M_empty 2 s23) fun _ s26 => (some (0, s26)) else none else none) else (M_turn_139 l1 s14))) else (M_turn_139 l1 s)
def M_turn (a1 : Int) (s : gS) : gA := g_bi (M_goes a1 s) fun r1 s2 => (if w32 r1 = 0 then (if 0 ≤ w32 a1 ∧ w32 a1 < 4 then (if w32 (s2 72 (w32 a1).toNat) = 0 then (if 0 ≤ w32 a1 ∧ w32 a1 < 4 then g_le (g_up s2 69 (w32 a1).toNat 0) fun s39 => (some (0, s39)) else none) else (some (0, s2))) else none) else (if 0 ≤ w32 a1 ∧ w32 a1 < 4 then (if w32 (s2 71 (w32 a1).toNat) = 0 then (if w32 a1 = 1 then (g_le (g_up s2 68 1 ((s2 68 1) + 1)) fun s28 => (M_turn_76 a1 s28)) else (M_turn_76 a1 s2)) else (if 0 ≤ w32 a1 ∧ w32 a1 < 4 then if 0 ≤ w32 a1 ∧ w32 a1 < 4 then g_le (g_up s2 69 (w32 a1).toNat ((s2 69 (w32 a1).toNat) + 1)) fun s32 => if 0 ≤ w32 a1 ∧ w32 a1 < 4 then (if w32 (s32 69 (w32 a1).toNat) = 4 then (some (1, s32)) else (some (0, s32))) else none else none else none)) else none))
-- BandPressModel.tickOnce()V (49,)
def M_tickOnce_209 (k178 : Int → Int → gS → gA) (l1 l3 t1 t2 : Int) (s : gS) : gA := if 0 ≤ w32 t1 ∧ w32 t1 < 4 then g_le (g_up s 69 (w32 t1).toNat t2) fun s19 => (k178 l1 (l3 + 1) s19) else none
def M_tickOnce_178 (k178 : Int → Int → gS → gA) (k216 : Int → gS → gA) (l1 l3 : Int) (s : gS) : gA := if 4 ≤ w32 l3 then (k216 l1 s) else (if 0 ≤ w32 l3 ∧ w32 l3 < 4 then g_le (g_up s 72 (w32 l3).toNat (i_nar .boolean 0)) fun s14 => (if w32 l1 = 0 then (if 0 ≤ w32 l3 ∧ w32 l3 < 4 then ((M_tickOnce_209 k178) l1 l3 l3 (s14 69 (w32 l3).toNat) s14) else none) else ((M_tickOnce_209 k178) l1 l3 l3 0 s14)) else none)
def M_tickOnce_178L (k216 : Int → gS → gA) : Nat → Int → Int → gS → gA
  | 0 => fun _ _ _ => none
  | n + 1 => M_tickOnce_178 (M_tickOnce_178L k216 n) k216
def M_tickOnce_308 (k308 : Int → gS → gA) (l4 : Int) (s : gS) : gA := if 4 ≤ w32 l4 then (some (0, s)) else (if 0 ≤ w32 l4 ∧ w32 l4 < 4 then g_le (g_up s 69 (w32 l4).toNat 0) fun s47 => (k308 (l4 + 1) s47) else none)
def M_tickOnce_308L : Nat → Int → gS → gA
  | 0 => fun _ _ => none
  | n + 1 => M_tickOnce_308 (M_tickOnce_308L n)
def M_tickOnce_280 (t0 : Int) (s : gS) : gA := g_bi (M_feed s) fun _ s38 => (if w32 t0 = 0 then (some (0, s38)) else (g_le (g_up s38 49 47 1) fun s41 => g_le (g_up s41 49 43 ((s41 49 43) + 1)) fun s43 => ((M_tickOnce_308L gFu) 0 s43)))
def M_tickOnce_275 (s : gS) : gA := M_tickOnce_280 1 s
def M_tickOnce_262 (t0 : Int) (s : gS) : gA := g_bi (M_turn 0 s) fun r33 s34 => (if w32 r33 = 0 then (if w32 t0 = 0 then (M_tickOnce_280 0 s34) else (M_tickOnce_275 s34)) else (M_tickOnce_275 s34))
def M_tickOnce_257 (s : gS) : gA := M_tickOnce_262 1 s
def M_tickOnce_244 (t0 : Int) (s : gS) : gA := g_bi (M_turn 1 s) fun r29 s30 => (if w32 r29 = 0 then (if w32 t0 = 0 then (M_tickOnce_262 0 s30) else (M_tickOnce_257 s30)) else (M_tickOnce_257 s30))
def M_tickOnce_239 (s : gS) : gA := M_tickOnce_244 1 s
def M_tickOnce_216 (l1 : Int) (s : gS) : gA := if w32 l1 = 0 then (g_bi (M_turn 2 s) fun r22 s23 => g_bi (M_turn 3 s23) fun r25 s26 => (if w32 r25 = 0 then (if w32 r22 = 0 then (M_tickOnce_244 0 s26) else (M_tickOnce_239 s26)) else (M_tickOnce_239 s26))) else (some (0, s))
def M_tickOnce_175 (t0 : Int) (s : gS) : gA := (M_tickOnce_178L M_tickOnce_216 gFu) t0 0 s
def M_tickOnce_170 (s : gS) : gA := M_tickOnce_175 1 s
def M_tickOnce_159 (l1 : Int) (s : gS) : gA := if w32 l1 = 0 then (if w32 (s 49 47) = 0 then (M_tickOnce_175 0 s) else (M_tickOnce_170 s)) else (M_tickOnce_170 s)
def M_tickOnce_147 (k122 : Int → Int → Int → gS → gA) (l1 l4 t0 : Int) (s : gS) : gA := k122 l1 t0 (l4 + 1) s
def M_tickOnce_142 (k122 : Int → Int → Int → gS → gA) (l1 l4 : Int) (s : gS) : gA := (M_tickOnce_147 k122) l1 l4 1 s
def M_tickOnce_122 (k122 : Int → Int → Int → gS → gA) (k154 : Int → Int → gS → gA) (l1 l3 l4 : Int) (s : gS) : gA := if 4 ≤ w32 l4 then (k154 l1 l3 s) else (if w32 l3 = 0 then (if 0 ≤ w32 l4 ∧ w32 l4 < 4 then (if w32 (s 71 (w32 l4).toNat) = 0 then ((M_tickOnce_147 k122) l1 l4 0 s) else ((M_tickOnce_142 k122) l1 l4 s)) else none) else ((M_tickOnce_142 k122) l1 l4 s))
def M_tickOnce_122L (k154 : Int → Int → gS → gA) : Nat → Int → Int → Int → gS → gA
  | 0 => fun _ _ _ _ => none
  | n + 1 => M_tickOnce_122 (M_tickOnce_122L k154 n) k154
def M_tickOnce_154 (l1 l3 : Int) (s : gS) : gA := if w32 l3 = 0 ∨ w32 l3 = 1 then g_le (g_up s 49 47 l3) fun s63 => (M_tickOnce_159 l1 s63) else none
def M_tickOnce_118 (l1 t0 : Int) (s : gS) : gA := (M_tickOnce_122L M_tickOnce_154 gFu) l1 t0 0 s
def M_tickOnce_89 (l1 t1 : Int) (s : gS) : gA := g_le (g_up s 49 41 t1) fun s8 => (if w32 (s8 49 46) = 0 then (if w32 (s8 49 47) = 0 then (M_tickOnce_159 l1 s8) else (g_bi (M_insideMany s8) fun r54 s55 => (if w32 r54 ≤ 0 then (M_tickOnce_118 l1 0 s55) else (M_tickOnce_118 l1 1 s55)))) else (M_tickOnce_159 l1 s8))
def M_tickOnce_71 (l1 : Int) (s : gS) : gA := if 5 ≤ w32 (s 49 41) then (M_tickOnce_89 l1 ((s 49 41) - 5) s) else (M_tickOnce_89 l1 0 s)
def M_tickOnce_31 (l1 t0 : Int) (s : gS) : gA := if w32 (s 49 46) = 0 then (if w32 t0 = 0 then (M_tickOnce_71 l1 s) else (if w32 ((s 49 41) + 10) ≤ 100 then (M_tickOnce_89 l1 ((s 49 41) + 10) s) else (M_tickOnce_89 l1 100 s))) else (M_tickOnce_71 l1 s)
def M_tickOnce (s : gS) : gA := g_le (g_up s 49 42 ((s 49 42) + 1)) fun s1 => g_le (s1 49 46) fun v3 => (if w32 (s1 49 44) ≤ w32 (s1 49 45) then (M_tickOnce_31 v3 0 s1) else (M_tickOnce_31 v3 1 s1))
-- BandPressModel.tick(I)I (49,)
def M_tick_32 (k32 : Int → Int → gS → gA) (l1 l2 : Int) (s : gS) : gA := if w32 l1 ≤ w32 l2 then (g_bi (M_stateOf s) fun r6 s7 => (some (r6, s7))) else (g_bi (M_tickOnce s) fun _ s10 => (k32 l1 (l2 + 1) s10))
def M_tick_32L : Nat → Int → Int → gS → gA
  | 0 => fun _ _ _ => none
  | n + 1 => M_tick_32 (M_tick_32L n)
def M_tick_18 (l1 t1 : Int) (s : gS) : gA := g_le (g_up s 49 0 t1) fun s2 => (if w32 (s2 49 0) = 0 then ((M_tick_32L gFu) l1 0 s2) else (some (0, s2)))
def M_tick_13 (l1 : Int) (s : gS) : gA := M_tick_18 l1 1 s
def M_tick (a1 : Int) (s : gS) : gA := if w32 a1 < 1 then (M_tick_13 a1 s) else (if w32 a1 ≤ 1000 then (M_tick_18 a1 0 s) else (M_tick_13 a1 s))
-- BandPressModel.type(JI)Z (49,)
def M_type_33 (k33 : Int → Int → Int → gS → gA) (k78 : Int → Int → gS → gA) (l1 l3 l4 : Int) (s : gS) : gA := if w32 l3 ≤ w32 l4 then (k78 l1 l3 s) else (g_le (l_and (l_shr l1 (8 * l4)) 255) fun v7 => (if w32 (l_cmp v7 32) < 0 then (some (0, s)) else (if w32 (l_cmp v7 126) ≤ 0 then (k33 l1 l3 (l4 + 1) s) else (some (0, s)))))
def M_type_33L (k78 : Int → Int → gS → gA) : Nat → Int → Int → Int → gS → gA
  | 0 => fun _ _ _ _ => none
  | n + 1 => M_type_33 (M_type_33L k78 n) k78
def M_type_83 (k83 : Int → Int → gS → gA) (l1 l4 : Int) (s : gS) : gA := if w32 l4 < 0 then (some (1, s)) else (if 0 ≤ w32 (s 49 3) ∧ w32 (s 49 3) < 300 then g_le (g_up s 50 (w32 (s 49 3)).toNat (l_and (l_shr l1 (8 * l4)) 255)) fun s15 => g_le (g_up s15 49 3 ((s15 49 3) + 1)) fun s17 => (k83 l1 (l4 + (-1)) s17) else none)
def M_type_83L : Nat → Int → Int → gS → gA
  | 0 => fun _ _ _ => none
  | n + 1 => M_type_83 (M_type_83L n)
def M_type_78 (l1 l3 : Int) (s : gS) : gA := g_le (l3 - 1) fun v11 => ((M_type_83L gFu) l1 v11 s)
def M_type (a1 a3 : Int) (s : gS) : gA := g_le (g_up s 49 0 0) fun s1 => (if w32 a3 < 1 then (some (0, s1)) else (if 8 < w32 a3 then (some (0, s1)) else (if w32 ((s1 49 3) + a3) ≤ 300 then ((M_type_33L M_type_78 gFu) a1 a3 0 s1) else (some (0, s1)))))
-- BandPressModel.value(I)I (49,)
def M_value_53 (l1 t0 : Int) (s : gS) : gA := if 0 ≤ w32 (((s 49 13) - 1) - l1) ∧ w32 (((s 49 13) - 1) - l1) < 33 then (some (t0 + (s 52 (w32 (((s 49 13) - 1) - l1)).toNat), s)) else none
def M_value_18 (l1 t1 : Int) (s : gS) : gA := g_le (g_up s 49 0 t1) fun s2 => (if w32 (s2 49 0) = 0 then (if 0 ≤ w32 (((s2 49 13) - 1) - l1) ∧ w32 (((s2 49 13) - 1) - l1) < 33 then (if w32 (s2 54 (w32 (((s2 49 13) - 1) - l1)).toNat) = 0 then (M_value_53 l1 0 s2) else (M_value_53 l1 2000000 s2)) else none) else (some (0, s2)))
def M_value_13 (l1 : Int) (s : gS) : gA := M_value_18 l1 1 s
def M_value (a1 : Int) (s : gS) : gA := if w32 a1 < 0 then (M_value_13 a1 s) else (if w32 a1 < w32 (s 49 13) then (M_value_18 a1 0 s) else (M_value_13 a1 s))
-- BandPressModel.variable(I)I (49,)
def M_variable (a1 : Int) (s : gS) : gA := g_le (g_up s 49 0 0) fun s1 => (if w32 a1 < 0 then (some (0, s1)) else (if w32 a1 ≤ 25 then (if 0 ≤ w32 a1 ∧ w32 a1 < 26 then (some (s1 53 (w32 a1).toNat, s1)) else none) else (some (0, s1))))
-- java/util/Arrays.fill([JJ)V (27,)
def Arrays_fill_c_6 (k6 : Int → Int → Int → gS → gA) (l1 l3 l4 : Int) (s : gS) : gA := if w32 l4 ≤ w32 l3 then (some (0, s)) else (if 0 ≤ w32 l3 ∧ w32 l3 < 240 then g_le (g_up s 27 (w32 l3).toNat l1) fun s3 => (k6 l1 (l3 + 1) l4 s3) else none)
def Arrays_fill_c_6L : Nat → Int → Int → Int → gS → gA
  | 0 => fun _ _ _ _ => none
  | n + 1 => Arrays_fill_c_6 (Arrays_fill_c_6L n)
def Arrays_fill_c (a1 : Int) (s : gS) : gA := (Arrays_fill_c_6L gFu) a1 0 240 s
