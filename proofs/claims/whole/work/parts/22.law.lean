abbrev M_Lw (L : Nat) (xs : Nat → Int32) : am_M := (x, code, 4, ret, some (L, xs))
theorem lw_dec {L : Nat} {xs : Nat → Int32} {pc : Nat} {r : Except DecodeError (Instr × Nat)} (h : decode code pc = r) : decode (M_Lw L xs).2.1 pc = r := h
def f_Lw_law_L18 (L : Nat) (xs : Nat → Int32) : Nat → Int32 → am_H → Option (Bool × am_H)
  | 0, _, _ => none
  | n + 1, v3, h =>
    (if ((Int32.ofNat L) - (6 : Int32)) < v3 then
      some (true, h)
    else
      (am_rd xs L v3).bind fun x2 =>
      (if (x2 &&& (63 : Int32)) = (0 : Int32) then
        (am_rd xs L (v3 + (1 : Int32))).bind fun x3 =>
        (am_rd xs L (v3 + (2 : Int32))).bind fun x4 =>
        (am_rd xs L (v3 + (3 : Int32))).bind fun x5 =>
        (am_rd xs L (v3 + (4 : Int32))).bind fun x6 =>
        (am_rd xs L (v3 + (5 : Int32))).bind fun x7 =>
        (f_Top_feed x3 x4 x5 x6 x7 h).bind fun q8 =>
        (am_rd xs L (v3 + (1 : Int32))).bind fun x9 =>
        (am_rd xs L (v3 + (2 : Int32))).bind fun x10 =>
        (am_rd xs L (v3 + (3 : Int32))).bind fun x11 =>
        (am_rd xs L (v3 + (4 : Int32))).bind fun x12 =>
        (am_rd xs L (v3 + (5 : Int32))).bind fun x13 =>
        (f_Mod_feed x9 x10 x11 x12 x13 q8.2).bind fun q14 =>
        (if q8.1 = q14.1 then
          f_Lw_law_L18 L xs n (v3 + (6 : Int32)) q14.2
        else
          some (false, q14.2))
      else if (x2 &&& (63 : Int32)) = (1 : Int32) then
        (am_rd xs L (v3 + (1 : Int32))).bind fun x16 =>
        (f_Top_river x16 h).bind fun q17 =>
        (am_rd xs L (v3 + (1 : Int32))).bind fun x18 =>
        (f_Mod_river x18 q17.2).bind fun q19 =>
        (if q17.1 = q19.1 then
          f_Lw_law_L18 L xs n (v3 + (6 : Int32)) q19.2
        else
          some (false, q19.2))
      else if (x2 &&& (63 : Int32)) = (2 : Int32) then
        (am_rd xs L (v3 + (1 : Int32))).bind fun x21 =>
        (f_Top_fault x21 h).bind fun q22 =>
        (am_rd xs L (v3 + (1 : Int32))).bind fun x23 =>
        (f_Mod_fault x23 h).bind fun q24 =>
        (if q22 = q24.1 then
          f_Lw_law_L18 L xs n (v3 + (6 : Int32)) q24.2
        else
          some (false, q24.2))
      else if (x2 &&& (63 : Int32)) = (3 : Int32) then
        (am_rd xs L (v3 + (1 : Int32))).bind fun x26 =>
        (f_Top_span x26 h).bind fun q27 =>
        (am_rd xs L (v3 + (1 : Int32))).bind fun x28 =>
        (f_Mod_span x28 h).bind fun q29 =>
        (if q27 = q29.1 then
          f_Lw_law_L18 L xs n (v3 + (6 : Int32)) q29.2
        else
          some (false, q29.2))
      else if (x2 &&& (63 : Int32)) = (4 : Int32) then
        (am_rd xs L (v3 + (1 : Int32))).bind fun x31 =>
        (am_rd xs L (v3 + (2 : Int32))).bind fun x32 =>
        (f_Top_person x31 x32 h).bind fun q33 =>
        (am_rd xs L (v3 + (1 : Int32))).bind fun x34 =>
        (am_rd xs L (v3 + (2 : Int32))).bind fun x35 =>
        (f_Mod_person x34 x35 h).bind fun q36 =>
        (if q33 = q36.1 then
          f_Lw_law_L18 L xs n (v3 + (6 : Int32)) q36.2
        else
          some (false, q36.2))
      else if (x2 &&& (63 : Int32)) = (5 : Int32) then
        (am_rd xs L (v3 + (1 : Int32))).bind fun x38 =>
        (am_rd xs L (v3 + (2 : Int32))).bind fun x39 =>
        (f_Top_why x38 x39 h).bind fun q40 =>
        (am_rd xs L (v3 + (1 : Int32))).bind fun x41 =>
        (am_rd xs L (v3 + (2 : Int32))).bind fun x42 =>
        (f_Mod_why x41 x42 h).bind fun q43 =>
        (if q40 = q43.1 then
          f_Lw_law_L18 L xs n (v3 + (6 : Int32)) q43.2
        else
          some (false, q43.2))
      else if (x2 &&& (63 : Int32)) = (6 : Int32) then
        (am_rd xs L (v3 + (1 : Int32))).bind fun x45 =>
        (am_rd xs L (v3 + (2 : Int32))).bind fun x46 =>
        (f_Top_act x45 x46 h).bind fun q47 =>
        (am_rd xs L (v3 + (1 : Int32))).bind fun x48 =>
        (am_rd xs L (v3 + (2 : Int32))).bind fun x49 =>
        (f_Mod_act x48 x49 q47.2).bind fun q50 =>
        (if q47.1 = q50.1 then
          f_Lw_law_L18 L xs n (v3 + (6 : Int32)) q50.2
        else
          some (false, q50.2))
      else if (x2 &&& (63 : Int32)) = (7 : Int32) then
        (am_rd xs L (v3 + (1 : Int32))).bind fun x52 =>
        (am_rd xs L (v3 + (2 : Int32))).bind fun x53 =>
        (f_Top_tell x52 x53 h).bind fun q54 =>
        (am_rd xs L (v3 + (1 : Int32))).bind fun x55 =>
        (am_rd xs L (v3 + (2 : Int32))).bind fun x56 =>
        (f_Mod_tell x55 x56 q54.2).bind fun q57 =>
        (if q54.1 = q57.1 then
          f_Lw_law_L18 L xs n (v3 + (6 : Int32)) q57.2
        else
          some (false, q57.2))
      else if (x2 &&& (63 : Int32)) = (8 : Int32) then
        (am_rd xs L (v3 + (1 : Int32))).bind fun x59 =>
        (f_Top_fog x59 h).bind fun q60 =>
        (am_rd xs L (v3 + (1 : Int32))).bind fun x61 =>
        (f_Mod_fog x61 q60.2).bind fun q62 =>
        (if q60.1 = q62.1 then
          f_Lw_law_L18 L xs n (v3 + (6 : Int32)) q62.2
        else
          some (false, q62.2))
      else if (x2 &&& (63 : Int32)) = (9 : Int32) then
        (am_rd xs L (v3 + (1 : Int32))).bind fun x64 =>
        (f_Top_hours x64 h).bind fun q65 =>
        (am_rd xs L (v3 + (1 : Int32))).bind fun x66 =>
        (f_Mod_hours x66 q65.2).bind fun q67 =>
        (if q65.1 = q67.1 then
          f_Lw_law_L18 L xs n (v3 + (6 : Int32)) q67.2
        else
          some (false, q67.2))
      else if (x2 &&& (63 : Int32)) = (10 : Int32) then
        (am_rd xs L (v3 + (1 : Int32))).bind fun x69 =>
        (f_Top_undo x69 h).bind fun q70 =>
        (am_rd xs L (v3 + (1 : Int32))).bind fun x71 =>
        (f_Mod_undo x71 q70.2).bind fun q72 =>
        (if q70.1 = q72.1 then
          f_Lw_law_L18 L xs n (v3 + (6 : Int32)) q72.2
        else
          some (false, q72.2))
      else if (x2 &&& (63 : Int32)) = (11 : Int32) then
        (am_rd xs L (v3 + (1 : Int32))).bind fun x74 =>
        (am_rd xs L (v3 + (2 : Int32))).bind fun x75 =>
        (f_Top_judge x74 x75 h).bind fun q76 =>
        (am_rd xs L (v3 + (1 : Int32))).bind fun x77 =>
        (am_rd xs L (v3 + (2 : Int32))).bind fun x78 =>
        (f_Mod_judge x77 x78 q76.2).bind fun q79 =>
        (if q76.1 = q79.1 then
          f_Lw_law_L18 L xs n (v3 + (6 : Int32)) q79.2
        else
          some (false, q79.2))
      else if (x2 &&& (63 : Int32)) = (12 : Int32) then
        (am_rd xs L (v3 + (1 : Int32))).bind fun x81 =>
        (f_Top_perform x81 h).bind fun q82 =>
        (am_rd xs L (v3 + (1 : Int32))).bind fun x83 =>
        (f_Mod_perform x83 q82.2).bind fun q84 =>
        (if q82.1 = q84.1 then
          f_Lw_law_L18 L xs n (v3 + (6 : Int32)) q84.2
        else
          some (false, q84.2))
      else if (x2 &&& (63 : Int32)) = (13 : Int32) then
        (am_rd xs L (v3 + (1 : Int32))).bind fun x86 =>
        (am_rd xs L (v3 + (2 : Int32))).bind fun x87 =>
        (f_Top_year x86 x87 h).bind fun q88 =>
        (am_rd xs L (v3 + (1 : Int32))).bind fun x89 =>
        (am_rd xs L (v3 + (2 : Int32))).bind fun x90 =>
        (f_Mod_year x89 x90 q88.2).bind fun q91 =>
        (if q88.1 = q91.1 then
          f_Lw_law_L18 L xs n (v3 + (6 : Int32)) q91.2
        else
          some (false, q91.2))
      else if (x2 &&& (63 : Int32)) = (14 : Int32) then
        (am_rd xs L (v3 + (1 : Int32))).bind fun x93 =>
        (am_rd xs L (v3 + (2 : Int32))).bind fun x94 =>
        (f_Top_soonest x93 x94 h).bind fun q95 =>
        (am_rd xs L (v3 + (1 : Int32))).bind fun x96 =>
        (am_rd xs L (v3 + (2 : Int32))).bind fun x97 =>
        (f_Mod_soonest x96 x97 h).bind fun q98 =>
        (if q95 = q98.1 then
          f_Lw_law_L18 L xs n (v3 + (6 : Int32)) q98.2
        else
          some (false, q98.2))
      else if (x2 &&& (63 : Int32)) = (15 : Int32) then
        (am_rd xs L (v3 + (1 : Int32))).bind fun x100 =>
        (am_rd xs L (v3 + (2 : Int32))).bind fun x101 =>
        (am_rd xs L (v3 + (3 : Int32))).bind fun x102 =>
        (f_Top_way x100 x101 x102 h).bind fun q103 =>
        (am_rd xs L (v3 + (1 : Int32))).bind fun x104 =>
        (am_rd xs L (v3 + (2 : Int32))).bind fun x105 =>
        (am_rd xs L (v3 + (3 : Int32))).bind fun x106 =>
        (f_Mod_way x104 x105 x106 q103.2).bind fun q107 =>
        (if q103.1 = q107.1 then
          f_Lw_law_L18 L xs n (v3 + (6 : Int32)) q107.2
        else
          some (false, q107.2))
      else if (x2 &&& (63 : Int32)) = (16 : Int32) then
        (am_rd xs L (v3 + (1 : Int32))).bind fun x109 =>
        (am_rd xs L (v3 + (2 : Int32))).bind fun x110 =>
        (am_rd xs L (v3 + (3 : Int32))).bind fun x111 =>
        (f_Top_ways x109 x110 x111 h).bind fun q112 =>
        (am_rd xs L (v3 + (1 : Int32))).bind fun x113 =>
        (am_rd xs L (v3 + (2 : Int32))).bind fun x114 =>
        (am_rd xs L (v3 + (3 : Int32))).bind fun x115 =>
        (f_Mod_ways x113 x114 x115 q112.2).bind fun q116 =>
        (if (lg_cmp q112.1 q116.1) = 0 then
          f_Lw_law_L18 L xs n (v3 + (6 : Int32)) q116.2
        else
          some (false, q116.2))
      else if (x2 &&& (63 : Int32)) = (17 : Int32) then
        (am_rd xs L (v3 + (1 : Int32))).bind fun x118 =>
        (am_rd xs L (v3 + (2 : Int32))).bind fun x119 =>
        (f_Top_reach x118 x119 h).bind fun q120 =>
        (am_rd xs L (v3 + (1 : Int32))).bind fun x121 =>
        (am_rd xs L (v3 + (2 : Int32))).bind fun x122 =>
        (f_Mod_reach x121 x122 h).bind fun q123 =>
        (if q120 = q123.1 then
          f_Lw_law_L18 L xs n (v3 + (6 : Int32)) q123.2
        else
          some (false, q123.2))
      else if (x2 &&& (63 : Int32)) = (18 : Int32) then
        (am_rd xs L (v3 + (1 : Int32))).bind fun x125 =>
        (am_rd xs L (v3 + (2 : Int32))).bind fun x126 =>
        (f_Top_meet x125 x126 h).bind fun q127 =>
        (am_rd xs L (v3 + (1 : Int32))).bind fun x128 =>
        (am_rd xs L (v3 + (2 : Int32))).bind fun x129 =>
        (f_Mod_meet x128 x129 h).bind fun q130 =>
        (if q127 = q130.1 then
          f_Lw_law_L18 L xs n (v3 + (6 : Int32)) q130.2
        else
          some (false, q130.2))
      else if (x2 &&& (63 : Int32)) = (19 : Int32) then
        (am_rd xs L (v3 + (1 : Int32))).bind fun x132 =>
        (am_rd xs L (v3 + (2 : Int32))).bind fun x133 =>
        (f_Top_meetAt x132 x133 h).bind fun q134 =>
        (am_rd xs L (v3 + (1 : Int32))).bind fun x135 =>
        (am_rd xs L (v3 + (2 : Int32))).bind fun x136 =>
        (f_Mod_meetAt x135 x136 h).bind fun q137 =>
        (if q134 = q137.1 then
          f_Lw_law_L18 L xs n (v3 + (6 : Int32)) q137.2
        else
          some (false, q137.2))
      else if (x2 &&& (63 : Int32)) = (20 : Int32) then
        (f_Top_inTime  h).bind fun q139 =>
        (f_Mod_inTime  h).bind fun q140 =>
        (if q139 = q140.1 then
          f_Lw_law_L18 L xs n (v3 + (6 : Int32)) q140.2
        else
          some (false, q140.2))
      else if (x2 &&& (63 : Int32)) = (21 : Int32) then
        (am_rd xs L (v3 + (1 : Int32))).bind fun x142 =>
        (f_Top_spare x142 h).bind fun q143 =>
        (am_rd xs L (v3 + (1 : Int32))).bind fun x144 =>
        (f_Mod_spare x144 h).bind fun q145 =>
        (if q143 = q145.1 then
          f_Lw_law_L18 L xs n (v3 + (6 : Int32)) q145.2
        else
          some (false, q145.2))
      else if (x2 &&& (63 : Int32)) = (22 : Int32) then
        (am_rd xs L (v3 + (1 : Int32))).bind fun x147 =>
        (f_Top_needs x147 h).bind fun q148 =>
        (am_rd xs L (v3 + (1 : Int32))).bind fun x149 =>
        (f_Mod_needs x149 q148.2).bind fun q150 =>
        (if q148.1 = q150.1 then
          f_Lw_law_L18 L xs n (v3 + (6 : Int32)) q150.2
        else
          some (false, q150.2))
      else if (x2 &&& (63 : Int32)) = (23 : Int32) then
        (f_Top_moves  h).bind fun q152 =>
        (f_Mod_moves  h).bind fun q153 =>
        (if q152 = q153.1 then
          f_Lw_law_L18 L xs n (v3 + (6 : Int32)) q153.2
        else
          some (false, q153.2))
      else if (x2 &&& (63 : Int32)) = (24 : Int32) then
        (am_rd xs L (v3 + (1 : Int32))).bind fun x155 =>
        (f_Top_best x155 h).bind fun q156 =>
        (am_rd xs L (v3 + (1 : Int32))).bind fun x157 =>
        (f_Mod_best x157 q156.2).bind fun q158 =>
        (if q156.1 = q158.1 then
          f_Lw_law_L18 L xs n (v3 + (6 : Int32)) q158.2
        else
          some (false, q158.2))
      else if (x2 &&& (63 : Int32)) = (25 : Int32) then
        (f_Top_change  h).bind fun q160 =>
        (f_Mod_change  q160.2).bind fun q161 =>
        (if q160.1 = q161.1 then
          f_Lw_law_L18 L xs n (v3 + (6 : Int32)) q161.2
        else
          some (false, q161.2))
      else if (x2 &&& (63 : Int32)) = (26 : Int32) then
        (f_Top_weeks  h).bind fun q163 =>
        (f_Mod_weeks  q163.2).bind fun q164 =>
        (if q163.1 = q164.1 then
          f_Lw_law_L18 L xs n (v3 + (6 : Int32)) q164.2
        else
          some (false, q164.2))
      else if (x2 &&& (63 : Int32)) = (27 : Int32) then
        (f_Top_shift  h).bind fun q166 =>
        (f_Mod_shift  q166.2).bind fun q167 =>
        (if q166.1 = q167.1 then
          f_Lw_law_L18 L xs n (v3 + (6 : Int32)) q167.2
        else
          some (false, q167.2))
      else if (x2 &&& (63 : Int32)) = (28 : Int32) then
        (am_rd xs L (v3 + (1 : Int32))).bind fun x169 =>
        (am_rd xs L (v3 + (2 : Int32))).bind fun x170 =>
        (am_rd xs L (v3 + (3 : Int32))).bind fun x171 =>
        (f_Top_fits x169 x170 x171 h).bind fun q172 =>
        (am_rd xs L (v3 + (1 : Int32))).bind fun x173 =>
        (am_rd xs L (v3 + (2 : Int32))).bind fun x174 =>
        (am_rd xs L (v3 + (3 : Int32))).bind fun x175 =>
        (f_Mod_fits x173 x174 x175 q172.2).bind fun q176 =>
        (if q172.1 = q176.1 then
          f_Lw_law_L18 L xs n (v3 + (6 : Int32)) q176.2
        else
          some (false, q176.2))
      else if (x2 &&& (63 : Int32)) = (29 : Int32) then
        (am_rd xs L (v3 + (1 : Int32))).bind fun x178 =>
        (am_rd xs L (v3 + (2 : Int32))).bind fun x179 =>
        (f_Top_surest x178 x179 h).bind fun q180 =>
        (am_rd xs L (v3 + (1 : Int32))).bind fun x181 =>
        (am_rd xs L (v3 + (2 : Int32))).bind fun x182 =>
        (f_Mod_surest x181 x182 q180.2).bind fun q183 =>
        (if q180.1 = q183.1 then
          f_Lw_law_L18 L xs n (v3 + (6 : Int32)) q183.2
        else
          some (false, q183.2))
      else if (x2 &&& (63 : Int32)) = (30 : Int32) then
        (am_rd xs L (v3 + (1 : Int32))).bind fun x185 =>
        (am_rd xs L (v3 + (2 : Int32))).bind fun x186 =>
        (f_Top_odd x185 x186 h).bind fun q187 =>
        (am_rd xs L (v3 + (1 : Int32))).bind fun x188 =>
        (am_rd xs L (v3 + (2 : Int32))).bind fun x189 =>
        (f_Mod_odd x188 x189 q187.2).bind fun q190 =>
        (if q187.1 = q190.1 then
          f_Lw_law_L18 L xs n (v3 + (6 : Int32)) q190.2
        else
          some (false, q190.2))
      else if (x2 &&& (63 : Int32)) = (31 : Int32) then
        (am_rd xs L (v3 + (1 : Int32))).bind fun x192 =>
        (am_rd xs L (v3 + (2 : Int32))).bind fun x193 =>
        (am_rd xs L (v3 + (3 : Int32))).bind fun x194 =>
        (am_rd xs L (v3 + (4 : Int32))).bind fun x195 =>
        (f_Top_chance x192 x193 x194 x195 h).bind fun q196 =>
        (am_rd xs L (v3 + (1 : Int32))).bind fun x197 =>
        (am_rd xs L (v3 + (2 : Int32))).bind fun x198 =>
        (am_rd xs L (v3 + (3 : Int32))).bind fun x199 =>
        (am_rd xs L (v3 + (4 : Int32))).bind fun x200 =>
        (f_Mod_chance x197 x198 x199 x200 q196.2).bind fun q201 =>
        (if (lg_cmp q196.1 q201.1) = 0 then
          f_Lw_law_L18 L xs n (v3 + (6 : Int32)) q201.2
        else
          some (false, q201.2))
      else if (x2 &&& (63 : Int32)) = (32 : Int32) then
        (am_rd xs L (v3 + (1 : Int32))).bind fun x203 =>
        (am_rd xs L (v3 + (2 : Int32))).bind fun x204 =>
        (am_rd xs L (v3 + (3 : Int32))).bind fun x205 =>
        (f_Top_likely x203 x204 x205 h).bind fun q206 =>
        (am_rd xs L (v3 + (1 : Int32))).bind fun x207 =>
        (am_rd xs L (v3 + (2 : Int32))).bind fun x208 =>
        (am_rd xs L (v3 + (3 : Int32))).bind fun x209 =>
        (f_Mod_likely x207 x208 x209 q206.2).bind fun q210 =>
        (if q206.1 = q210.1 then
          f_Lw_law_L18 L xs n (v3 + (6 : Int32)) q210.2
        else
          some (false, q210.2))
      else if (x2 &&& (63 : Int32)) = (33 : Int32) then
        (am_rd xs L (v3 + (1 : Int32))).bind fun x212 =>
        (am_rd xs L (v3 + (2 : Int32))).bind fun x213 =>
        (am_rd xs L (v3 + (3 : Int32))).bind fun x214 =>
        (f_Top_numbers x212 x213 x214 h).bind fun q215 =>
        (am_rd xs L (v3 + (1 : Int32))).bind fun x216 =>
        (am_rd xs L (v3 + (2 : Int32))).bind fun x217 =>
        (am_rd xs L (v3 + (3 : Int32))).bind fun x218 =>
        (f_Mod_numbers x216 x217 x218 q215.2).bind fun q219 =>
        (if q215.1 = q219.1 then
          f_Lw_law_L18 L xs n (v3 + (6 : Int32)) q219.2
        else
          some (false, q219.2))
      else if (x2 &&& (63 : Int32)) = (34 : Int32) then
        (am_rd xs L (v3 + (1 : Int32))).bind fun x221 =>
        (am_rd xs L (v3 + (2 : Int32))).bind fun x222 =>
        (am_rd xs L (v3 + (3 : Int32))).bind fun x223 =>
        (am_rd xs L (v3 + (4 : Int32))).bind fun x224 =>
        (f_Top_write x221 x222 ((((x223).toInt64) <<< (((32 : Int32)).toInt64 &&& 63)) ||| (((x224).toInt64) &&& (4294967295 : Int64))) h).bind fun q225 =>
        (am_rd xs L (v3 + (1 : Int32))).bind fun x226 =>
        (am_rd xs L (v3 + (2 : Int32))).bind fun x227 =>
        (am_rd xs L (v3 + (3 : Int32))).bind fun x228 =>
        (am_rd xs L (v3 + (4 : Int32))).bind fun x229 =>
        (f_Mod_write x226 x227 ((((x228).toInt64) <<< (((32 : Int32)).toInt64 &&& 63)) ||| (((x229).toInt64) &&& (4294967295 : Int64))) q225.2).bind fun q230 =>
        (if (lg_cmp q225.1 q230.1) = 0 then
          f_Lw_law_L18 L xs n (v3 + (6 : Int32)) q230.2
        else
          some (false, q230.2))
      else if (x2 &&& (63 : Int32)) = (35 : Int32) then
        (am_rd xs L (v3 + (1 : Int32))).bind fun x232 =>
        (am_rd xs L (v3 + (2 : Int32))).bind fun x233 =>
        (am_rd xs L (v3 + (3 : Int32))).bind fun x234 =>
        (f_Top_lists x232 x233 x234 h).bind fun q235 =>
        (am_rd xs L (v3 + (1 : Int32))).bind fun x236 =>
        (am_rd xs L (v3 + (2 : Int32))).bind fun x237 =>
        (am_rd xs L (v3 + (3 : Int32))).bind fun x238 =>
        (f_Mod_lists x236 x237 x238 q235.2).bind fun q239 =>
        (if q235.1 = q239.1 then
          f_Lw_law_L18 L xs n (v3 + (6 : Int32)) q239.2
        else
          some (false, q239.2))
      else if (x2 &&& (63 : Int32)) = (36 : Int32) then
        (am_rd xs L (v3 + (1 : Int32))).bind fun x241 =>
        (f_Top_image x241 h).bind fun q242 =>
        (am_rd xs L (v3 + (1 : Int32))).bind fun x243 =>
        (f_Mod_image x243 q242.2).bind fun q244 =>
        (if q242.1 = q244.1 then
          f_Lw_law_L18 L xs n (v3 + (6 : Int32)) q244.2
        else
          some (false, q244.2))
      else if (x2 &&& (63 : Int32)) = (37 : Int32) then
        (am_rd xs L (v3 + (1 : Int32))).bind fun x246 =>
        (f_Top_restore x246 h).bind fun q247 =>
        (am_rd xs L (v3 + (1 : Int32))).bind fun x248 =>
        (f_Mod_restore x248 q247.2).bind fun q249 =>
        (if q247.1 = q249.1 then
          f_Lw_law_L18 L xs n (v3 + (6 : Int32)) q249.2
        else
          some (false, q249.2))
      else if (x2 &&& (63 : Int32)) = (38 : Int32) then
        (am_rd xs L (v3 + (1 : Int32))).bind fun x251 =>
        (f_Top_count x251 h).bind fun q252 =>
        (am_rd xs L (v3 + (1 : Int32))).bind fun x253 =>
        (f_Mod_count x253 h).bind fun q254 =>
        (if q252 = q254.1 then
          f_Lw_law_L18 L xs n (v3 + (6 : Int32)) q254.2
        else
          some (false, q254.2))
      else 
        f_Lw_law_L18 L xs n (v3 + (6 : Int32)) h))
set_option maxRecDepth 100000 in
set_option maxHeartbeats 40000000 in
theorem t_Lw_loop {L : Nat} {xs : Nat → Int32} : ∀ (n : Nat) (v3 : Int32) (h : am_H) (r : Bool × am_H), am_Sh h → f_Lw_law_L18 L xs n v3 h = some r → am_G 2048 (M_Lw L xs) 600000 7302250 (am_qB r) 18 [(0, .retAddr 100), (1, .ref 0), (2, .ref 136), (3, .int v3)] [] h 161 14193 := by
  intro n
  induction n with
  | zero =>
    intro v3 h r hs hf
    rw [f_Lw_law_L18] at hf
    cases hf
  | succ n ih =>
    intro v3 h r hs hf
    rw [f_Lw_law_L18] at hf
    refine g_iload_n (i := 3) (lw_dec (by decide +kernel)) rfl ?_
    refine g_aload_ns (i := 0) (lw_dec (by decide +kernel)) rfl ?_
    refine g_slen rfl rfl (lw_dec (by decide +kernel)) ?_
    refine g_bipush (z := 6) (v := 6) (lw_dec (by decide +kernel)) rfl ?_
    refine g_isub (lw_dec (by decide +kernel)) ?_
    refine x_icmp_gt (off := 1396) (tgt := 1420) hf (lw_dec (by decide +kernel)) (by decide) (fun c1 hf => ?_) (fun c1 hf => ?_)
    · refine g_iconst (z := 1) (v := 1) (lw_dec (by decide +kernel)) rfl ?_
      exact x_zret rfl hf hs (lw_dec (by decide +kernel)) rfl (by decide) (by decide)
    · refine g_aload_ns (i := 0) (lw_dec (by decide +kernel)) rfl ?_
      refine g_iload_n (i := 3) (lw_dec (by decide +kernel)) rfl ?_
      refine x_sld hf rfl (lw_dec (by decide +kernel)) (fun x2 hf => ?_)
      refine g_bipush (z := 63) (v := 63) (lw_dec (by decide +kernel)) rfl ?_
      refine g_iand (lw_dec (by decide +kernel)) ?_
      by_cases e0 : (x2 &&& (63 : Int32)) = (0 : Int32)
      · rw [if_pos e0] at hf
        have ex : Int32.toInt (x2 &&& (63 : Int32)) = 0 := by rw [e0]; rfl
        refine x_tabIn (dflt := 1381) (lo := 0) (hi := 38) (offs := #[171, 234, 257, 280, 303, 336, 369, 402, 435, 458, 481, 504, 537, 560, 593, 626, 669, 713, 746, 779, 812, 825, 848, 871, 884, 907, 920, 933, 946, 989, 1022, 1055, 1109, 1152, 1195, 1269, 1312, 1335, 1358]) (len := 171) (off := 171) (tgt := 204) (lw_dec (by decide +kernel)) (by rw [ex]; decide) (by rw [ex]; decide) (by rw [ex]; rfl) (by decide) ?_
        refine g_aload_n (i := 1) (lw_dec (by decide +kernel)) rfl ?_
        refine g_aload_ns (i := 0) (lw_dec (by decide +kernel)) rfl ?_
        refine g_iload_n (i := 3) (lw_dec (by decide +kernel)) rfl ?_
        refine g_iconst (z := 1) (v := 1) (lw_dec (by decide +kernel)) rfl ?_
        refine g_iadd (lw_dec (by decide +kernel)) ?_
        refine x_sld hf rfl (lw_dec (by decide +kernel)) (fun x3 hf => ?_)
        refine g_aload_ns (i := 0) (lw_dec (by decide +kernel)) rfl ?_
        refine g_iload_n (i := 3) (lw_dec (by decide +kernel)) rfl ?_
        refine g_iconst (z := 2) (v := 2) (lw_dec (by decide +kernel)) rfl ?_
        refine g_iadd (lw_dec (by decide +kernel)) ?_
        refine x_sld hf rfl (lw_dec (by decide +kernel)) (fun x4 hf => ?_)
        refine g_aload_ns (i := 0) (lw_dec (by decide +kernel)) rfl ?_
        refine g_iload_n (i := 3) (lw_dec (by decide +kernel)) rfl ?_
        refine g_iconst (z := 3) (v := 3) (lw_dec (by decide +kernel)) rfl ?_
        refine g_iadd (lw_dec (by decide +kernel)) ?_
        refine x_sld hf rfl (lw_dec (by decide +kernel)) (fun x5 hf => ?_)
        refine g_aload_ns (i := 0) (lw_dec (by decide +kernel)) rfl ?_
        refine g_iload_n (i := 3) (lw_dec (by decide +kernel)) rfl ?_
        refine g_iconst (z := 4) (v := 4) (lw_dec (by decide +kernel)) rfl ?_
        refine g_iadd (lw_dec (by decide +kernel)) ?_
        refine x_sld hf rfl (lw_dec (by decide +kernel)) (fun x6 hf => ?_)
        refine g_aload_ns (i := 0) (lw_dec (by decide +kernel)) rfl ?_
        refine g_iload_n (i := 3) (lw_dec (by decide +kernel)) rfl ?_
        refine g_iconst (z := 5) (v := 5) (lw_dec (by decide +kernel)) rfl ?_
        refine g_iadd (lw_dec (by decide +kernel)) ?_
        refine x_sld hf rfl (lw_dec (by decide +kernel)) (fun x7 hf => ?_)
        refine x_callVI (as := [.int x3, .int x4, .int x5, .int x6, .int x7]) Vi_Top_feed Vs_Top_feed (hs.k k_0) rfl hf (fun q hq => t_Top_feed hs  hq) Y_Top_feed L_Lw_13 (lw_dec (by decide +kernel)) rfl rfl (Nat.le_of_ble_eq_true rfl) (by decide) (by decide) (by decide) (fun q8 hf hs => ?_)
        refine g_aload_n (i := 2) (lw_dec (by decide +kernel)) rfl ?_
        refine g_aload_ns (i := 0) (lw_dec (by decide +kernel)) rfl ?_
        refine g_iload_n (i := 3) (lw_dec (by decide +kernel)) rfl ?_
        refine g_iconst (z := 1) (v := 1) (lw_dec (by decide +kernel)) rfl ?_
        refine g_iadd (lw_dec (by decide +kernel)) ?_
        refine x_sld hf rfl (lw_dec (by decide +kernel)) (fun x9 hf => ?_)
        refine g_aload_ns (i := 0) (lw_dec (by decide +kernel)) rfl ?_
        refine g_iload_n (i := 3) (lw_dec (by decide +kernel)) rfl ?_
        refine g_iconst (z := 2) (v := 2) (lw_dec (by decide +kernel)) rfl ?_
        refine g_iadd (lw_dec (by decide +kernel)) ?_
        refine x_sld hf rfl (lw_dec (by decide +kernel)) (fun x10 hf => ?_)
        refine g_aload_ns (i := 0) (lw_dec (by decide +kernel)) rfl ?_
        refine g_iload_n (i := 3) (lw_dec (by decide +kernel)) rfl ?_
        refine g_iconst (z := 3) (v := 3) (lw_dec (by decide +kernel)) rfl ?_
        refine g_iadd (lw_dec (by decide +kernel)) ?_
        refine x_sld hf rfl (lw_dec (by decide +kernel)) (fun x11 hf => ?_)
        refine g_aload_ns (i := 0) (lw_dec (by decide +kernel)) rfl ?_
        refine g_iload_n (i := 3) (lw_dec (by decide +kernel)) rfl ?_
        refine g_iconst (z := 4) (v := 4) (lw_dec (by decide +kernel)) rfl ?_
        refine g_iadd (lw_dec (by decide +kernel)) ?_
        refine x_sld hf rfl (lw_dec (by decide +kernel)) (fun x12 hf => ?_)
        refine g_aload_ns (i := 0) (lw_dec (by decide +kernel)) rfl ?_
        refine g_iload_n (i := 3) (lw_dec (by decide +kernel)) rfl ?_
        refine g_iconst (z := 5) (v := 5) (lw_dec (by decide +kernel)) rfl ?_
        refine g_iadd (lw_dec (by decide +kernel)) ?_
        refine x_sld hf rfl (lw_dec (by decide +kernel)) (fun x13 hf => ?_)
        refine x_callVI (as := [.int x9, .int x10, .int x11, .int x12, .int x13]) Vi_Mod_feed Vs_Mod_feed (hs.k k_136) rfl hf (fun q hq => t_Mod_feed hs  hq) Y_Mod_feed L_Lw_17 (lw_dec (by decide +kernel)) rfl rfl (Nat.le_of_ble_eq_true rfl) (by decide) (by decide) (by decide) (fun q14 hf hs => ?_)
        refine x_icmp_eq (off := 1152) (tgt := 1414) hf (lw_dec (by decide +kernel)) (by decide) (fun c15 hf => ?_) (fun c15 hf => ?_)
        · refine g_iinc (i := 3) (z := 6) (v := (v3 + (6 : Int32))) (lw_dec (by decide +kernel)) rfl rfl rfl (show (3 : Nat) < 4 by decide) (ls1 := [(0, .retAddr 100), (1, .ref 0), (2, .ref 136), (3, .int (v3 + (6 : Int32)))]) rfl ?_
          refine g_goto (off := (-1399)) (tgt := 18) (lw_dec (by decide +kernel)) (by decide) ?_
          exact am_G.forget (am_subp [0, 1, 2, 3] rfl) (ih _ _ _ hs hf)
        · refine g_iconst (z := 0) (v := 0) (lw_dec (by decide +kernel)) rfl ?_
          exact x_zret rfl hf hs (lw_dec (by decide +kernel)) rfl (by decide) (by decide)
      · rw [if_neg e0] at hf
        by_cases e1 : (x2 &&& (63 : Int32)) = (1 : Int32)
        · rw [if_pos e1] at hf
          have ex : Int32.toInt (x2 &&& (63 : Int32)) = 1 := by rw [e1]; rfl
          refine x_tabIn (dflt := 1381) (lo := 0) (hi := 38) (offs := #[171, 234, 257, 280, 303, 336, 369, 402, 435, 458, 481, 504, 537, 560, 593, 626, 669, 713, 746, 779, 812, 825, 848, 871, 884, 907, 920, 933, 946, 989, 1022, 1055, 1109, 1152, 1195, 1269, 1312, 1335, 1358]) (len := 171) (off := 234) (tgt := 267) (lw_dec (by decide +kernel)) (by rw [ex]; decide) (by rw [ex]; decide) (by rw [ex]; rfl) (by decide) ?_
          refine g_aload_n (i := 1) (lw_dec (by decide +kernel)) rfl ?_
          refine g_aload_ns (i := 0) (lw_dec (by decide +kernel)) rfl ?_
          refine g_iload_n (i := 3) (lw_dec (by decide +kernel)) rfl ?_
          refine g_iconst (z := 1) (v := 1) (lw_dec (by decide +kernel)) rfl ?_
          refine g_iadd (lw_dec (by decide +kernel)) ?_
          refine x_sld hf rfl (lw_dec (by decide +kernel)) (fun x16 hf => ?_)
          refine x_callVI (as := [.int x16]) Vi_Top_river Vs_Top_river (hs.k k_0) rfl hf (fun q hq => t_Top_river hs  hq) Y_Top_river L_Lw_18 (lw_dec (by decide +kernel)) rfl rfl (Nat.le_of_ble_eq_true rfl) (by decide) (by decide) (by decide) (fun q17 hf hs => ?_)
          refine g_aload_n (i := 2) (lw_dec (by decide +kernel)) rfl ?_
          refine g_aload_ns (i := 0) (lw_dec (by decide +kernel)) rfl ?_
          refine g_iload_n (i := 3) (lw_dec (by decide +kernel)) rfl ?_
          refine g_iconst (z := 1) (v := 1) (lw_dec (by decide +kernel)) rfl ?_
          refine g_iadd (lw_dec (by decide +kernel)) ?_
          refine x_sld hf rfl (lw_dec (by decide +kernel)) (fun x18 hf => ?_)
          refine x_callVI (as := [.int x18]) Vi_Mod_river Vs_Mod_river (hs.k k_136) rfl hf (fun q hq => t_Mod_river hs  hq) Y_Mod_river L_Lw_22 (lw_dec (by decide +kernel)) rfl rfl (Nat.le_of_ble_eq_true rfl) (by decide) (by decide) (by decide) (fun q19 hf hs => ?_)
          refine x_icmp_eq (off := 1129) (tgt := 1414) hf (lw_dec (by decide +kernel)) (by decide) (fun c20 hf => ?_) (fun c20 hf => ?_)
          · refine g_iinc (i := 3) (z := 6) (v := (v3 + (6 : Int32))) (lw_dec (by decide +kernel)) rfl rfl rfl (show (3 : Nat) < 4 by decide) (ls1 := [(0, .retAddr 100), (1, .ref 0), (2, .ref 136), (3, .int (v3 + (6 : Int32)))]) rfl ?_
            refine g_goto (off := (-1399)) (tgt := 18) (lw_dec (by decide +kernel)) (by decide) ?_
            exact am_G.forget (am_subp [0, 1, 2, 3] rfl) (ih _ _ _ hs hf)
          · refine g_iconst (z := 0) (v := 0) (lw_dec (by decide +kernel)) rfl ?_
            exact x_zret rfl hf hs (lw_dec (by decide +kernel)) rfl (by decide) (by decide)
        · rw [if_neg e1] at hf
          by_cases e2 : (x2 &&& (63 : Int32)) = (2 : Int32)
          · rw [if_pos e2] at hf
            have ex : Int32.toInt (x2 &&& (63 : Int32)) = 2 := by rw [e2]; rfl
            refine x_tabIn (dflt := 1381) (lo := 0) (hi := 38) (offs := #[171, 234, 257, 280, 303, 336, 369, 402, 435, 458, 481, 504, 537, 560, 593, 626, 669, 713, 746, 779, 812, 825, 848, 871, 884, 907, 920, 933, 946, 989, 1022, 1055, 1109, 1152, 1195, 1269, 1312, 1335, 1358]) (len := 171) (off := 257) (tgt := 290) (lw_dec (by decide +kernel)) (by rw [ex]; decide) (by rw [ex]; decide) (by rw [ex]; rfl) (by decide) ?_
            refine g_aload_n (i := 1) (lw_dec (by decide +kernel)) rfl ?_
            refine g_aload_ns (i := 0) (lw_dec (by decide +kernel)) rfl ?_
            refine g_iload_n (i := 3) (lw_dec (by decide +kernel)) rfl ?_
            refine g_iconst (z := 1) (v := 1) (lw_dec (by decide +kernel)) rfl ?_
            refine g_iadd (lw_dec (by decide +kernel)) ?_
            refine x_sld hf rfl (lw_dec (by decide +kernel)) (fun x21 hf => ?_)
            refine x_callVIp (as := [.int x21]) Vi_Top_fault Vs_Top_fault (hs.k k_0) rfl hf (fun q hq => t_Top_fault hs  hq) Y_Top_fault L_Lw_23 (lw_dec (by decide +kernel)) rfl rfl (Nat.le_of_ble_eq_true rfl) (by decide) (by decide) (by decide) (fun q22 hf => ?_)
            refine g_aload_n (i := 2) (lw_dec (by decide +kernel)) rfl ?_
            refine g_aload_ns (i := 0) (lw_dec (by decide +kernel)) rfl ?_
            refine g_iload_n (i := 3) (lw_dec (by decide +kernel)) rfl ?_
            refine g_iconst (z := 1) (v := 1) (lw_dec (by decide +kernel)) rfl ?_
            refine g_iadd (lw_dec (by decide +kernel)) ?_
            refine x_sld hf rfl (lw_dec (by decide +kernel)) (fun x23 hf => ?_)
            refine x_callVI (as := [.int x23]) Vi_Mod_fault Vs_Mod_fault (hs.k k_136) rfl hf (fun q hq => t_Mod_fault hs  hq) Y_Mod_fault L_Lw_26 (lw_dec (by decide +kernel)) rfl rfl (Nat.le_of_ble_eq_true rfl) (by decide) (by decide) (by decide) (fun q24 hf hs => ?_)
            refine x_icmp_eq (off := 1106) (tgt := 1414) hf (lw_dec (by decide +kernel)) (by decide) (fun c25 hf => ?_) (fun c25 hf => ?_)
            · refine g_iinc (i := 3) (z := 6) (v := (v3 + (6 : Int32))) (lw_dec (by decide +kernel)) rfl rfl rfl (show (3 : Nat) < 4 by decide) (ls1 := [(0, .retAddr 100), (1, .ref 0), (2, .ref 136), (3, .int (v3 + (6 : Int32)))]) rfl ?_
              refine g_goto (off := (-1399)) (tgt := 18) (lw_dec (by decide +kernel)) (by decide) ?_
              exact am_G.forget (am_subp [0, 1, 2, 3] rfl) (ih _ _ _ hs hf)
            · refine g_iconst (z := 0) (v := 0) (lw_dec (by decide +kernel)) rfl ?_
              exact x_zret rfl hf hs (lw_dec (by decide +kernel)) rfl (by decide) (by decide)
          · rw [if_neg e2] at hf
            by_cases e3 : (x2 &&& (63 : Int32)) = (3 : Int32)
            · rw [if_pos e3] at hf
              have ex : Int32.toInt (x2 &&& (63 : Int32)) = 3 := by rw [e3]; rfl
              refine x_tabIn (dflt := 1381) (lo := 0) (hi := 38) (offs := #[171, 234, 257, 280, 303, 336, 369, 402, 435, 458, 481, 504, 537, 560, 593, 626, 669, 713, 746, 779, 812, 825, 848, 871, 884, 907, 920, 933, 946, 989, 1022, 1055, 1109, 1152, 1195, 1269, 1312, 1335, 1358]) (len := 171) (off := 280) (tgt := 313) (lw_dec (by decide +kernel)) (by rw [ex]; decide) (by rw [ex]; decide) (by rw [ex]; rfl) (by decide) ?_
              refine g_aload_n (i := 1) (lw_dec (by decide +kernel)) rfl ?_
              refine g_aload_ns (i := 0) (lw_dec (by decide +kernel)) rfl ?_
              refine g_iload_n (i := 3) (lw_dec (by decide +kernel)) rfl ?_
              refine g_iconst (z := 1) (v := 1) (lw_dec (by decide +kernel)) rfl ?_
              refine g_iadd (lw_dec (by decide +kernel)) ?_
              refine x_sld hf rfl (lw_dec (by decide +kernel)) (fun x26 hf => ?_)
              refine x_callVIp (as := [.int x26]) Vi_Top_span Vs_Top_span (hs.k k_0) rfl hf (fun q hq => t_Top_span hs  hq) Y_Top_span L_Lw_27 (lw_dec (by decide +kernel)) rfl rfl (Nat.le_of_ble_eq_true rfl) (by decide) (by decide) (by decide) (fun q27 hf => ?_)
              refine g_aload_n (i := 2) (lw_dec (by decide +kernel)) rfl ?_
              refine g_aload_ns (i := 0) (lw_dec (by decide +kernel)) rfl ?_
              refine g_iload_n (i := 3) (lw_dec (by decide +kernel)) rfl ?_
              refine g_iconst (z := 1) (v := 1) (lw_dec (by decide +kernel)) rfl ?_
              refine g_iadd (lw_dec (by decide +kernel)) ?_
              refine x_sld hf rfl (lw_dec (by decide +kernel)) (fun x28 hf => ?_)
              refine x_callVI (as := [.int x28]) Vi_Mod_span Vs_Mod_span (hs.k k_136) rfl hf (fun q hq => t_Mod_span hs  hq) Y_Mod_span L_Lw_30 (lw_dec (by decide +kernel)) rfl rfl (Nat.le_of_ble_eq_true rfl) (by decide) (by decide) (by decide) (fun q29 hf hs => ?_)
              refine x_icmp_eq (off := 1083) (tgt := 1414) hf (lw_dec (by decide +kernel)) (by decide) (fun c30 hf => ?_) (fun c30 hf => ?_)
              · refine g_iinc (i := 3) (z := 6) (v := (v3 + (6 : Int32))) (lw_dec (by decide +kernel)) rfl rfl rfl (show (3 : Nat) < 4 by decide) (ls1 := [(0, .retAddr 100), (1, .ref 0), (2, .ref 136), (3, .int (v3 + (6 : Int32)))]) rfl ?_
                refine g_goto (off := (-1399)) (tgt := 18) (lw_dec (by decide +kernel)) (by decide) ?_
                exact am_G.forget (am_subp [0, 1, 2, 3] rfl) (ih _ _ _ hs hf)
              · refine g_iconst (z := 0) (v := 0) (lw_dec (by decide +kernel)) rfl ?_
                exact x_zret rfl hf hs (lw_dec (by decide +kernel)) rfl (by decide) (by decide)
            · rw [if_neg e3] at hf
              by_cases e4 : (x2 &&& (63 : Int32)) = (4 : Int32)
              · rw [if_pos e4] at hf
                have ex : Int32.toInt (x2 &&& (63 : Int32)) = 4 := by rw [e4]; rfl
                refine x_tabIn (dflt := 1381) (lo := 0) (hi := 38) (offs := #[171, 234, 257, 280, 303, 336, 369, 402, 435, 458, 481, 504, 537, 560, 593, 626, 669, 713, 746, 779, 812, 825, 848, 871, 884, 907, 920, 933, 946, 989, 1022, 1055, 1109, 1152, 1195, 1269, 1312, 1335, 1358]) (len := 171) (off := 303) (tgt := 336) (lw_dec (by decide +kernel)) (by rw [ex]; decide) (by rw [ex]; decide) (by rw [ex]; rfl) (by decide) ?_
                refine g_aload_n (i := 1) (lw_dec (by decide +kernel)) rfl ?_
                refine g_aload_ns (i := 0) (lw_dec (by decide +kernel)) rfl ?_
                refine g_iload_n (i := 3) (lw_dec (by decide +kernel)) rfl ?_
                refine g_iconst (z := 1) (v := 1) (lw_dec (by decide +kernel)) rfl ?_
                refine g_iadd (lw_dec (by decide +kernel)) ?_
                refine x_sld hf rfl (lw_dec (by decide +kernel)) (fun x31 hf => ?_)
                refine g_aload_ns (i := 0) (lw_dec (by decide +kernel)) rfl ?_
                refine g_iload_n (i := 3) (lw_dec (by decide +kernel)) rfl ?_
                refine g_iconst (z := 2) (v := 2) (lw_dec (by decide +kernel)) rfl ?_
                refine g_iadd (lw_dec (by decide +kernel)) ?_
                refine x_sld hf rfl (lw_dec (by decide +kernel)) (fun x32 hf => ?_)
                refine x_callVIp (as := [.int x31, .int x32]) Vi_Top_person Vs_Top_person (hs.k k_0) rfl hf (fun q hq => t_Top_person hs  hq) Y_Top_person L_Lw_31 (lw_dec (by decide +kernel)) rfl rfl (Nat.le_of_ble_eq_true rfl) (by decide) (by decide) (by decide) (fun q33 hf => ?_)
                refine g_aload_n (i := 2) (lw_dec (by decide +kernel)) rfl ?_
                refine g_aload_ns (i := 0) (lw_dec (by decide +kernel)) rfl ?_
                refine g_iload_n (i := 3) (lw_dec (by decide +kernel)) rfl ?_
                refine g_iconst (z := 1) (v := 1) (lw_dec (by decide +kernel)) rfl ?_
                refine g_iadd (lw_dec (by decide +kernel)) ?_
                refine x_sld hf rfl (lw_dec (by decide +kernel)) (fun x34 hf => ?_)
                refine g_aload_ns (i := 0) (lw_dec (by decide +kernel)) rfl ?_
                refine g_iload_n (i := 3) (lw_dec (by decide +kernel)) rfl ?_
                refine g_iconst (z := 2) (v := 2) (lw_dec (by decide +kernel)) rfl ?_
                refine g_iadd (lw_dec (by decide +kernel)) ?_
                refine x_sld hf rfl (lw_dec (by decide +kernel)) (fun x35 hf => ?_)
                refine x_callVI (as := [.int x34, .int x35]) Vi_Mod_person Vs_Mod_person (hs.k k_136) rfl hf (fun q hq => t_Mod_person hs  hq) Y_Mod_person L_Lw_35 (lw_dec (by decide +kernel)) rfl rfl (Nat.le_of_ble_eq_true rfl) (by decide) (by decide) (by decide) (fun q36 hf hs => ?_)
                refine x_icmp_eq (off := 1050) (tgt := 1414) hf (lw_dec (by decide +kernel)) (by decide) (fun c37 hf => ?_) (fun c37 hf => ?_)
                · refine g_iinc (i := 3) (z := 6) (v := (v3 + (6 : Int32))) (lw_dec (by decide +kernel)) rfl rfl rfl (show (3 : Nat) < 4 by decide) (ls1 := [(0, .retAddr 100), (1, .ref 0), (2, .ref 136), (3, .int (v3 + (6 : Int32)))]) rfl ?_
                  refine g_goto (off := (-1399)) (tgt := 18) (lw_dec (by decide +kernel)) (by decide) ?_
                  exact am_G.forget (am_subp [0, 1, 2, 3] rfl) (ih _ _ _ hs hf)
                · refine g_iconst (z := 0) (v := 0) (lw_dec (by decide +kernel)) rfl ?_
                  exact x_zret rfl hf hs (lw_dec (by decide +kernel)) rfl (by decide) (by decide)
              · rw [if_neg e4] at hf
                by_cases e5 : (x2 &&& (63 : Int32)) = (5 : Int32)
                · rw [if_pos e5] at hf
                  have ex : Int32.toInt (x2 &&& (63 : Int32)) = 5 := by rw [e5]; rfl
                  refine x_tabIn (dflt := 1381) (lo := 0) (hi := 38) (offs := #[171, 234, 257, 280, 303, 336, 369, 402, 435, 458, 481, 504, 537, 560, 593, 626, 669, 713, 746, 779, 812, 825, 848, 871, 884, 907, 920, 933, 946, 989, 1022, 1055, 1109, 1152, 1195, 1269, 1312, 1335, 1358]) (len := 171) (off := 336) (tgt := 369) (lw_dec (by decide +kernel)) (by rw [ex]; decide) (by rw [ex]; decide) (by rw [ex]; rfl) (by decide) ?_
                  refine g_aload_n (i := 1) (lw_dec (by decide +kernel)) rfl ?_
                  refine g_aload_ns (i := 0) (lw_dec (by decide +kernel)) rfl ?_
                  refine g_iload_n (i := 3) (lw_dec (by decide +kernel)) rfl ?_
                  refine g_iconst (z := 1) (v := 1) (lw_dec (by decide +kernel)) rfl ?_
                  refine g_iadd (lw_dec (by decide +kernel)) ?_
                  refine x_sld hf rfl (lw_dec (by decide +kernel)) (fun x38 hf => ?_)
                  refine g_aload_ns (i := 0) (lw_dec (by decide +kernel)) rfl ?_
                  refine g_iload_n (i := 3) (lw_dec (by decide +kernel)) rfl ?_
                  refine g_iconst (z := 2) (v := 2) (lw_dec (by decide +kernel)) rfl ?_
                  refine g_iadd (lw_dec (by decide +kernel)) ?_
                  refine x_sld hf rfl (lw_dec (by decide +kernel)) (fun x39 hf => ?_)
                  refine x_callVIp (as := [.int x38, .int x39]) Vi_Top_why Vs_Top_why (hs.k k_0) rfl hf (fun q hq => t_Top_why hs  hq) Y_Top_why L_Lw_36 (lw_dec (by decide +kernel)) rfl rfl (Nat.le_of_ble_eq_true rfl) (by decide) (by decide) (by decide) (fun q40 hf => ?_)
                  refine g_aload_n (i := 2) (lw_dec (by decide +kernel)) rfl ?_
                  refine g_aload_ns (i := 0) (lw_dec (by decide +kernel)) rfl ?_
                  refine g_iload_n (i := 3) (lw_dec (by decide +kernel)) rfl ?_
                  refine g_iconst (z := 1) (v := 1) (lw_dec (by decide +kernel)) rfl ?_
                  refine g_iadd (lw_dec (by decide +kernel)) ?_
                  refine x_sld hf rfl (lw_dec (by decide +kernel)) (fun x41 hf => ?_)
                  refine g_aload_ns (i := 0) (lw_dec (by decide +kernel)) rfl ?_
                  refine g_iload_n (i := 3) (lw_dec (by decide +kernel)) rfl ?_
                  refine g_iconst (z := 2) (v := 2) (lw_dec (by decide +kernel)) rfl ?_
                  refine g_iadd (lw_dec (by decide +kernel)) ?_
                  refine x_sld hf rfl (lw_dec (by decide +kernel)) (fun x42 hf => ?_)
                  refine x_callVI (as := [.int x41, .int x42]) Vi_Mod_why Vs_Mod_why (hs.k k_136) rfl hf (fun q hq => t_Mod_why hs  hq) Y_Mod_why L_Lw_39 (lw_dec (by decide +kernel)) rfl rfl (Nat.le_of_ble_eq_true rfl) (by decide) (by decide) (by decide) (fun q43 hf hs => ?_)
                  refine x_icmp_eq (off := 1017) (tgt := 1414) hf (lw_dec (by decide +kernel)) (by decide) (fun c44 hf => ?_) (fun c44 hf => ?_)
                  · refine g_iinc (i := 3) (z := 6) (v := (v3 + (6 : Int32))) (lw_dec (by decide +kernel)) rfl rfl rfl (show (3 : Nat) < 4 by decide) (ls1 := [(0, .retAddr 100), (1, .ref 0), (2, .ref 136), (3, .int (v3 + (6 : Int32)))]) rfl ?_
                    refine g_goto (off := (-1399)) (tgt := 18) (lw_dec (by decide +kernel)) (by decide) ?_
                    exact am_G.forget (am_subp [0, 1, 2, 3] rfl) (ih _ _ _ hs hf)
                  · refine g_iconst (z := 0) (v := 0) (lw_dec (by decide +kernel)) rfl ?_
                    exact x_zret rfl hf hs (lw_dec (by decide +kernel)) rfl (by decide) (by decide)
                · rw [if_neg e5] at hf
                  by_cases e6 : (x2 &&& (63 : Int32)) = (6 : Int32)
                  · rw [if_pos e6] at hf
                    have ex : Int32.toInt (x2 &&& (63 : Int32)) = 6 := by rw [e6]; rfl
                    refine x_tabIn (dflt := 1381) (lo := 0) (hi := 38) (offs := #[171, 234, 257, 280, 303, 336, 369, 402, 435, 458, 481, 504, 537, 560, 593, 626, 669, 713, 746, 779, 812, 825, 848, 871, 884, 907, 920, 933, 946, 989, 1022, 1055, 1109, 1152, 1195, 1269, 1312, 1335, 1358]) (len := 171) (off := 369) (tgt := 402) (lw_dec (by decide +kernel)) (by rw [ex]; decide) (by rw [ex]; decide) (by rw [ex]; rfl) (by decide) ?_
                    refine g_aload_n (i := 1) (lw_dec (by decide +kernel)) rfl ?_
                    refine g_aload_ns (i := 0) (lw_dec (by decide +kernel)) rfl ?_
                    refine g_iload_n (i := 3) (lw_dec (by decide +kernel)) rfl ?_
                    refine g_iconst (z := 1) (v := 1) (lw_dec (by decide +kernel)) rfl ?_
                    refine g_iadd (lw_dec (by decide +kernel)) ?_
                    refine x_sld hf rfl (lw_dec (by decide +kernel)) (fun x45 hf => ?_)
                    refine g_aload_ns (i := 0) (lw_dec (by decide +kernel)) rfl ?_
                    refine g_iload_n (i := 3) (lw_dec (by decide +kernel)) rfl ?_
                    refine g_iconst (z := 2) (v := 2) (lw_dec (by decide +kernel)) rfl ?_
                    refine g_iadd (lw_dec (by decide +kernel)) ?_
                    refine x_sld hf rfl (lw_dec (by decide +kernel)) (fun x46 hf => ?_)
                    refine x_callVI (as := [.int x45, .int x46]) Vi_Top_act Vs_Top_act (hs.k k_0) rfl hf (fun q hq => t_Top_act hs  hq) Y_Top_act L_Lw_40 (lw_dec (by decide +kernel)) rfl rfl (Nat.le_of_ble_eq_true rfl) (by decide) (by decide) (by decide) (fun q47 hf hs => ?_)
                    refine g_aload_n (i := 2) (lw_dec (by decide +kernel)) rfl ?_
                    refine g_aload_ns (i := 0) (lw_dec (by decide +kernel)) rfl ?_
                    refine g_iload_n (i := 3) (lw_dec (by decide +kernel)) rfl ?_
                    refine g_iconst (z := 1) (v := 1) (lw_dec (by decide +kernel)) rfl ?_
                    refine g_iadd (lw_dec (by decide +kernel)) ?_
                    refine x_sld hf rfl (lw_dec (by decide +kernel)) (fun x48 hf => ?_)
                    refine g_aload_ns (i := 0) (lw_dec (by decide +kernel)) rfl ?_
                    refine g_iload_n (i := 3) (lw_dec (by decide +kernel)) rfl ?_
                    refine g_iconst (z := 2) (v := 2) (lw_dec (by decide +kernel)) rfl ?_
                    refine g_iadd (lw_dec (by decide +kernel)) ?_
                    refine x_sld hf rfl (lw_dec (by decide +kernel)) (fun x49 hf => ?_)
                    refine x_callVI (as := [.int x48, .int x49]) Vi_Mod_act Vs_Mod_act (hs.k k_136) rfl hf (fun q hq => t_Mod_act hs  hq) Y_Mod_act L_Lw_43 (lw_dec (by decide +kernel)) rfl rfl (Nat.le_of_ble_eq_true rfl) (by decide) (by decide) (by decide) (fun q50 hf hs => ?_)
                    refine x_icmp_eq (off := 984) (tgt := 1414) hf (lw_dec (by decide +kernel)) (by decide) (fun c51 hf => ?_) (fun c51 hf => ?_)
                    · refine g_iinc (i := 3) (z := 6) (v := (v3 + (6 : Int32))) (lw_dec (by decide +kernel)) rfl rfl rfl (show (3 : Nat) < 4 by decide) (ls1 := [(0, .retAddr 100), (1, .ref 0), (2, .ref 136), (3, .int (v3 + (6 : Int32)))]) rfl ?_
                      refine g_goto (off := (-1399)) (tgt := 18) (lw_dec (by decide +kernel)) (by decide) ?_
                      exact am_G.forget (am_subp [0, 1, 2, 3] rfl) (ih _ _ _ hs hf)
                    · refine g_iconst (z := 0) (v := 0) (lw_dec (by decide +kernel)) rfl ?_
                      exact x_zret rfl hf hs (lw_dec (by decide +kernel)) rfl (by decide) (by decide)
                  · rw [if_neg e6] at hf
                    by_cases e7 : (x2 &&& (63 : Int32)) = (7 : Int32)
                    · rw [if_pos e7] at hf
                      have ex : Int32.toInt (x2 &&& (63 : Int32)) = 7 := by rw [e7]; rfl
                      refine x_tabIn (dflt := 1381) (lo := 0) (hi := 38) (offs := #[171, 234, 257, 280, 303, 336, 369, 402, 435, 458, 481, 504, 537, 560, 593, 626, 669, 713, 746, 779, 812, 825, 848, 871, 884, 907, 920, 933, 946, 989, 1022, 1055, 1109, 1152, 1195, 1269, 1312, 1335, 1358]) (len := 171) (off := 402) (tgt := 435) (lw_dec (by decide +kernel)) (by rw [ex]; decide) (by rw [ex]; decide) (by rw [ex]; rfl) (by decide) ?_
                      refine g_aload_n (i := 1) (lw_dec (by decide +kernel)) rfl ?_
                      refine g_aload_ns (i := 0) (lw_dec (by decide +kernel)) rfl ?_
                      refine g_iload_n (i := 3) (lw_dec (by decide +kernel)) rfl ?_
                      refine g_iconst (z := 1) (v := 1) (lw_dec (by decide +kernel)) rfl ?_
                      refine g_iadd (lw_dec (by decide +kernel)) ?_
                      refine x_sld hf rfl (lw_dec (by decide +kernel)) (fun x52 hf => ?_)
                      refine g_aload_ns (i := 0) (lw_dec (by decide +kernel)) rfl ?_
                      refine g_iload_n (i := 3) (lw_dec (by decide +kernel)) rfl ?_
                      refine g_iconst (z := 2) (v := 2) (lw_dec (by decide +kernel)) rfl ?_
                      refine g_iadd (lw_dec (by decide +kernel)) ?_
                      refine x_sld hf rfl (lw_dec (by decide +kernel)) (fun x53 hf => ?_)
                      refine x_callVI (as := [.int x52, .int x53]) Vi_Top_tell Vs_Top_tell (hs.k k_0) rfl hf (fun q hq => t_Top_tell hs  hq) Y_Top_tell L_Lw_44 (lw_dec (by decide +kernel)) rfl rfl (Nat.le_of_ble_eq_true rfl) (by decide) (by decide) (by decide) (fun q54 hf hs => ?_)
                      refine g_aload_n (i := 2) (lw_dec (by decide +kernel)) rfl ?_
                      refine g_aload_ns (i := 0) (lw_dec (by decide +kernel)) rfl ?_
                      refine g_iload_n (i := 3) (lw_dec (by decide +kernel)) rfl ?_
                      refine g_iconst (z := 1) (v := 1) (lw_dec (by decide +kernel)) rfl ?_
                      refine g_iadd (lw_dec (by decide +kernel)) ?_
                      refine x_sld hf rfl (lw_dec (by decide +kernel)) (fun x55 hf => ?_)
                      refine g_aload_ns (i := 0) (lw_dec (by decide +kernel)) rfl ?_
                      refine g_iload_n (i := 3) (lw_dec (by decide +kernel)) rfl ?_
                      refine g_iconst (z := 2) (v := 2) (lw_dec (by decide +kernel)) rfl ?_
                      refine g_iadd (lw_dec (by decide +kernel)) ?_
                      refine x_sld hf rfl (lw_dec (by decide +kernel)) (fun x56 hf => ?_)
                      refine x_callVI (as := [.int x55, .int x56]) Vi_Mod_tell Vs_Mod_tell (hs.k k_136) rfl hf (fun q hq => t_Mod_tell hs  hq) Y_Mod_tell L_Lw_47 (lw_dec (by decide +kernel)) rfl rfl (Nat.le_of_ble_eq_true rfl) (by decide) (by decide) (by decide) (fun q57 hf hs => ?_)
                      refine x_icmp_eq (off := 951) (tgt := 1414) hf (lw_dec (by decide +kernel)) (by decide) (fun c58 hf => ?_) (fun c58 hf => ?_)
                      · refine g_iinc (i := 3) (z := 6) (v := (v3 + (6 : Int32))) (lw_dec (by decide +kernel)) rfl rfl rfl (show (3 : Nat) < 4 by decide) (ls1 := [(0, .retAddr 100), (1, .ref 0), (2, .ref 136), (3, .int (v3 + (6 : Int32)))]) rfl ?_
                        refine g_goto (off := (-1399)) (tgt := 18) (lw_dec (by decide +kernel)) (by decide) ?_
                        exact am_G.forget (am_subp [0, 1, 2, 3] rfl) (ih _ _ _ hs hf)
                      · refine g_iconst (z := 0) (v := 0) (lw_dec (by decide +kernel)) rfl ?_
                        exact x_zret rfl hf hs (lw_dec (by decide +kernel)) rfl (by decide) (by decide)
                    · rw [if_neg e7] at hf
                      by_cases e8 : (x2 &&& (63 : Int32)) = (8 : Int32)
                      · rw [if_pos e8] at hf
                        have ex : Int32.toInt (x2 &&& (63 : Int32)) = 8 := by rw [e8]; rfl
                        refine x_tabIn (dflt := 1381) (lo := 0) (hi := 38) (offs := #[171, 234, 257, 280, 303, 336, 369, 402, 435, 458, 481, 504, 537, 560, 593, 626, 669, 713, 746, 779, 812, 825, 848, 871, 884, 907, 920, 933, 946, 989, 1022, 1055, 1109, 1152, 1195, 1269, 1312, 1335, 1358]) (len := 171) (off := 435) (tgt := 468) (lw_dec (by decide +kernel)) (by rw [ex]; decide) (by rw [ex]; decide) (by rw [ex]; rfl) (by decide) ?_
                        refine g_aload_n (i := 1) (lw_dec (by decide +kernel)) rfl ?_
                        refine g_aload_ns (i := 0) (lw_dec (by decide +kernel)) rfl ?_
                        refine g_iload_n (i := 3) (lw_dec (by decide +kernel)) rfl ?_
                        refine g_iconst (z := 1) (v := 1) (lw_dec (by decide +kernel)) rfl ?_
                        refine g_iadd (lw_dec (by decide +kernel)) ?_
                        refine x_sld hf rfl (lw_dec (by decide +kernel)) (fun x59 hf => ?_)
                        refine x_callVI (as := [.int x59]) Vi_Top_fog Vs_Top_fog (hs.k k_0) rfl hf (fun q hq => t_Top_fog hs  hq) Y_Top_fog L_Lw_48 (lw_dec (by decide +kernel)) rfl rfl (Nat.le_of_ble_eq_true rfl) (by decide) (by decide) (by decide) (fun q60 hf hs => ?_)
                        refine g_aload_n (i := 2) (lw_dec (by decide +kernel)) rfl ?_
                        refine g_aload_ns (i := 0) (lw_dec (by decide +kernel)) rfl ?_
                        refine g_iload_n (i := 3) (lw_dec (by decide +kernel)) rfl ?_
                        refine g_iconst (z := 1) (v := 1) (lw_dec (by decide +kernel)) rfl ?_
                        refine g_iadd (lw_dec (by decide +kernel)) ?_
                        refine x_sld hf rfl (lw_dec (by decide +kernel)) (fun x61 hf => ?_)
                        refine x_callVI (as := [.int x61]) Vi_Mod_fog Vs_Mod_fog (hs.k k_136) rfl hf (fun q hq => t_Mod_fog hs  hq) Y_Mod_fog L_Lw_51 (lw_dec (by decide +kernel)) rfl rfl (Nat.le_of_ble_eq_true rfl) (by decide) (by decide) (by decide) (fun q62 hf hs => ?_)
                        refine x_icmp_eq (off := 928) (tgt := 1414) hf (lw_dec (by decide +kernel)) (by decide) (fun c63 hf => ?_) (fun c63 hf => ?_)
                        · refine g_iinc (i := 3) (z := 6) (v := (v3 + (6 : Int32))) (lw_dec (by decide +kernel)) rfl rfl rfl (show (3 : Nat) < 4 by decide) (ls1 := [(0, .retAddr 100), (1, .ref 0), (2, .ref 136), (3, .int (v3 + (6 : Int32)))]) rfl ?_
                          refine g_goto (off := (-1399)) (tgt := 18) (lw_dec (by decide +kernel)) (by decide) ?_
                          exact am_G.forget (am_subp [0, 1, 2, 3] rfl) (ih _ _ _ hs hf)
                        · refine g_iconst (z := 0) (v := 0) (lw_dec (by decide +kernel)) rfl ?_
                          exact x_zret rfl hf hs (lw_dec (by decide +kernel)) rfl (by decide) (by decide)
                      · rw [if_neg e8] at hf
                        by_cases e9 : (x2 &&& (63 : Int32)) = (9 : Int32)
                        · rw [if_pos e9] at hf
                          have ex : Int32.toInt (x2 &&& (63 : Int32)) = 9 := by rw [e9]; rfl
                          refine x_tabIn (dflt := 1381) (lo := 0) (hi := 38) (offs := #[171, 234, 257, 280, 303, 336, 369, 402, 435, 458, 481, 504, 537, 560, 593, 626, 669, 713, 746, 779, 812, 825, 848, 871, 884, 907, 920, 933, 946, 989, 1022, 1055, 1109, 1152, 1195, 1269, 1312, 1335, 1358]) (len := 171) (off := 458) (tgt := 491) (lw_dec (by decide +kernel)) (by rw [ex]; decide) (by rw [ex]; decide) (by rw [ex]; rfl) (by decide) ?_
                          refine g_aload_n (i := 1) (lw_dec (by decide +kernel)) rfl ?_
                          refine g_aload_ns (i := 0) (lw_dec (by decide +kernel)) rfl ?_
                          refine g_iload_n (i := 3) (lw_dec (by decide +kernel)) rfl ?_
                          refine g_iconst (z := 1) (v := 1) (lw_dec (by decide +kernel)) rfl ?_
                          refine g_iadd (lw_dec (by decide +kernel)) ?_
                          refine x_sld hf rfl (lw_dec (by decide +kernel)) (fun x64 hf => ?_)
                          refine x_callVI (as := [.int x64]) Vi_Top_hours Vs_Top_hours (hs.k k_0) rfl hf (fun q hq => t_Top_hours hs  hq) Y_Top_hours L_Lw_52 (lw_dec (by decide +kernel)) rfl rfl (Nat.le_of_ble_eq_true rfl) (by decide) (by decide) (by decide) (fun q65 hf hs => ?_)
                          refine g_aload_n (i := 2) (lw_dec (by decide +kernel)) rfl ?_
                          refine g_aload_ns (i := 0) (lw_dec (by decide +kernel)) rfl ?_
                          refine g_iload_n (i := 3) (lw_dec (by decide +kernel)) rfl ?_
                          refine g_iconst (z := 1) (v := 1) (lw_dec (by decide +kernel)) rfl ?_
                          refine g_iadd (lw_dec (by decide +kernel)) ?_
                          refine x_sld hf rfl (lw_dec (by decide +kernel)) (fun x66 hf => ?_)
                          refine x_callVI (as := [.int x66]) Vi_Mod_hours Vs_Mod_hours (hs.k k_136) rfl hf (fun q hq => t_Mod_hours hs  hq) Y_Mod_hours L_Lw_55 (lw_dec (by decide +kernel)) rfl rfl (Nat.le_of_ble_eq_true rfl) (by decide) (by decide) (by decide) (fun q67 hf hs => ?_)
                          refine x_icmp_eq (off := 905) (tgt := 1414) hf (lw_dec (by decide +kernel)) (by decide) (fun c68 hf => ?_) (fun c68 hf => ?_)
                          · refine g_iinc (i := 3) (z := 6) (v := (v3 + (6 : Int32))) (lw_dec (by decide +kernel)) rfl rfl rfl (show (3 : Nat) < 4 by decide) (ls1 := [(0, .retAddr 100), (1, .ref 0), (2, .ref 136), (3, .int (v3 + (6 : Int32)))]) rfl ?_
                            refine g_goto (off := (-1399)) (tgt := 18) (lw_dec (by decide +kernel)) (by decide) ?_
                            exact am_G.forget (am_subp [0, 1, 2, 3] rfl) (ih _ _ _ hs hf)
                          · refine g_iconst (z := 0) (v := 0) (lw_dec (by decide +kernel)) rfl ?_
                            exact x_zret rfl hf hs (lw_dec (by decide +kernel)) rfl (by decide) (by decide)
                        · rw [if_neg e9] at hf
                          by_cases e10 : (x2 &&& (63 : Int32)) = (10 : Int32)
                          · rw [if_pos e10] at hf
                            have ex : Int32.toInt (x2 &&& (63 : Int32)) = 10 := by rw [e10]; rfl
                            refine x_tabIn (dflt := 1381) (lo := 0) (hi := 38) (offs := #[171, 234, 257, 280, 303, 336, 369, 402, 435, 458, 481, 504, 537, 560, 593, 626, 669, 713, 746, 779, 812, 825, 848, 871, 884, 907, 920, 933, 946, 989, 1022, 1055, 1109, 1152, 1195, 1269, 1312, 1335, 1358]) (len := 171) (off := 481) (tgt := 514) (lw_dec (by decide +kernel)) (by rw [ex]; decide) (by rw [ex]; decide) (by rw [ex]; rfl) (by decide) ?_
                            refine g_aload_n (i := 1) (lw_dec (by decide +kernel)) rfl ?_
                            refine g_aload_ns (i := 0) (lw_dec (by decide +kernel)) rfl ?_
                            refine g_iload_n (i := 3) (lw_dec (by decide +kernel)) rfl ?_
                            refine g_iconst (z := 1) (v := 1) (lw_dec (by decide +kernel)) rfl ?_
                            refine g_iadd (lw_dec (by decide +kernel)) ?_
                            refine x_sld hf rfl (lw_dec (by decide +kernel)) (fun x69 hf => ?_)
                            refine x_callVI (as := [.int x69]) Vi_Top_undo Vs_Top_undo (hs.k k_0) rfl hf (fun q hq => t_Top_undo hs  hq) Y_Top_undo L_Lw_56 (lw_dec (by decide +kernel)) rfl rfl (Nat.le_of_ble_eq_true rfl) (by decide) (by decide) (by decide) (fun q70 hf hs => ?_)
                            refine g_aload_n (i := 2) (lw_dec (by decide +kernel)) rfl ?_
                            refine g_aload_ns (i := 0) (lw_dec (by decide +kernel)) rfl ?_
                            refine g_iload_n (i := 3) (lw_dec (by decide +kernel)) rfl ?_
                            refine g_iconst (z := 1) (v := 1) (lw_dec (by decide +kernel)) rfl ?_
                            refine g_iadd (lw_dec (by decide +kernel)) ?_
                            refine x_sld hf rfl (lw_dec (by decide +kernel)) (fun x71 hf => ?_)
                            refine x_callVI (as := [.int x71]) Vi_Mod_undo Vs_Mod_undo (hs.k k_136) rfl hf (fun q hq => t_Mod_undo hs  hq) Y_Mod_undo L_Lw_59 (lw_dec (by decide +kernel)) rfl rfl (Nat.le_of_ble_eq_true rfl) (by decide) (by decide) (by decide) (fun q72 hf hs => ?_)
                            refine x_icmp_eq (off := 882) (tgt := 1414) hf (lw_dec (by decide +kernel)) (by decide) (fun c73 hf => ?_) (fun c73 hf => ?_)
                            · refine g_iinc (i := 3) (z := 6) (v := (v3 + (6 : Int32))) (lw_dec (by decide +kernel)) rfl rfl rfl (show (3 : Nat) < 4 by decide) (ls1 := [(0, .retAddr 100), (1, .ref 0), (2, .ref 136), (3, .int (v3 + (6 : Int32)))]) rfl ?_
                              refine g_goto (off := (-1399)) (tgt := 18) (lw_dec (by decide +kernel)) (by decide) ?_
                              exact am_G.forget (am_subp [0, 1, 2, 3] rfl) (ih _ _ _ hs hf)
                            · refine g_iconst (z := 0) (v := 0) (lw_dec (by decide +kernel)) rfl ?_
                              exact x_zret rfl hf hs (lw_dec (by decide +kernel)) rfl (by decide) (by decide)
                          · rw [if_neg e10] at hf
                            by_cases e11 : (x2 &&& (63 : Int32)) = (11 : Int32)
                            · rw [if_pos e11] at hf
                              have ex : Int32.toInt (x2 &&& (63 : Int32)) = 11 := by rw [e11]; rfl
                              refine x_tabIn (dflt := 1381) (lo := 0) (hi := 38) (offs := #[171, 234, 257, 280, 303, 336, 369, 402, 435, 458, 481, 504, 537, 560, 593, 626, 669, 713, 746, 779, 812, 825, 848, 871, 884, 907, 920, 933, 946, 989, 1022, 1055, 1109, 1152, 1195, 1269, 1312, 1335, 1358]) (len := 171) (off := 504) (tgt := 537) (lw_dec (by decide +kernel)) (by rw [ex]; decide) (by rw [ex]; decide) (by rw [ex]; rfl) (by decide) ?_
                              refine g_aload_n (i := 1) (lw_dec (by decide +kernel)) rfl ?_
                              refine g_aload_ns (i := 0) (lw_dec (by decide +kernel)) rfl ?_
                              refine g_iload_n (i := 3) (lw_dec (by decide +kernel)) rfl ?_
                              refine g_iconst (z := 1) (v := 1) (lw_dec (by decide +kernel)) rfl ?_
                              refine g_iadd (lw_dec (by decide +kernel)) ?_
                              refine x_sld hf rfl (lw_dec (by decide +kernel)) (fun x74 hf => ?_)
                              refine g_aload_ns (i := 0) (lw_dec (by decide +kernel)) rfl ?_
                              refine g_iload_n (i := 3) (lw_dec (by decide +kernel)) rfl ?_
                              refine g_iconst (z := 2) (v := 2) (lw_dec (by decide +kernel)) rfl ?_
                              refine g_iadd (lw_dec (by decide +kernel)) ?_
                              refine x_sld hf rfl (lw_dec (by decide +kernel)) (fun x75 hf => ?_)
                              refine x_callVI (as := [.int x74, .int x75]) Vi_Top_judge Vs_Top_judge (hs.k k_0) rfl hf (fun q hq => t_Top_judge hs  hq) Y_Top_judge L_Lw_60 (lw_dec (by decide +kernel)) rfl rfl (Nat.le_of_ble_eq_true rfl) (by decide) (by decide) (by decide) (fun q76 hf hs => ?_)
                              refine g_aload_n (i := 2) (lw_dec (by decide +kernel)) rfl ?_
                              refine g_aload_ns (i := 0) (lw_dec (by decide +kernel)) rfl ?_
                              refine g_iload_n (i := 3) (lw_dec (by decide +kernel)) rfl ?_
                              refine g_iconst (z := 1) (v := 1) (lw_dec (by decide +kernel)) rfl ?_
                              refine g_iadd (lw_dec (by decide +kernel)) ?_
                              refine x_sld hf rfl (lw_dec (by decide +kernel)) (fun x77 hf => ?_)
                              refine g_aload_ns (i := 0) (lw_dec (by decide +kernel)) rfl ?_
                              refine g_iload_n (i := 3) (lw_dec (by decide +kernel)) rfl ?_
                              refine g_iconst (z := 2) (v := 2) (lw_dec (by decide +kernel)) rfl ?_
                              refine g_iadd (lw_dec (by decide +kernel)) ?_
                              refine x_sld hf rfl (lw_dec (by decide +kernel)) (fun x78 hf => ?_)
                              refine x_callVI (as := [.int x77, .int x78]) Vi_Mod_judge Vs_Mod_judge (hs.k k_136) rfl hf (fun q hq => t_Mod_judge hs  hq) Y_Mod_judge L_Lw_63 (lw_dec (by decide +kernel)) rfl rfl (Nat.le_of_ble_eq_true rfl) (by decide) (by decide) (by decide) (fun q79 hf hs => ?_)
                              refine x_icmp_eq (off := 849) (tgt := 1414) hf (lw_dec (by decide +kernel)) (by decide) (fun c80 hf => ?_) (fun c80 hf => ?_)
                              · refine g_iinc (i := 3) (z := 6) (v := (v3 + (6 : Int32))) (lw_dec (by decide +kernel)) rfl rfl rfl (show (3 : Nat) < 4 by decide) (ls1 := [(0, .retAddr 100), (1, .ref 0), (2, .ref 136), (3, .int (v3 + (6 : Int32)))]) rfl ?_
                                refine g_goto (off := (-1399)) (tgt := 18) (lw_dec (by decide +kernel)) (by decide) ?_
                                exact am_G.forget (am_subp [0, 1, 2, 3] rfl) (ih _ _ _ hs hf)
                              · refine g_iconst (z := 0) (v := 0) (lw_dec (by decide +kernel)) rfl ?_
                                exact x_zret rfl hf hs (lw_dec (by decide +kernel)) rfl (by decide) (by decide)
                            · rw [if_neg e11] at hf
                              by_cases e12 : (x2 &&& (63 : Int32)) = (12 : Int32)
                              · rw [if_pos e12] at hf
                                have ex : Int32.toInt (x2 &&& (63 : Int32)) = 12 := by rw [e12]; rfl
                                refine x_tabIn (dflt := 1381) (lo := 0) (hi := 38) (offs := #[171, 234, 257, 280, 303, 336, 369, 402, 435, 458, 481, 504, 537, 560, 593, 626, 669, 713, 746, 779, 812, 825, 848, 871, 884, 907, 920, 933, 946, 989, 1022, 1055, 1109, 1152, 1195, 1269, 1312, 1335, 1358]) (len := 171) (off := 537) (tgt := 570) (lw_dec (by decide +kernel)) (by rw [ex]; decide) (by rw [ex]; decide) (by rw [ex]; rfl) (by decide) ?_
                                refine g_aload_n (i := 1) (lw_dec (by decide +kernel)) rfl ?_
                                refine g_aload_ns (i := 0) (lw_dec (by decide +kernel)) rfl ?_
                                refine g_iload_n (i := 3) (lw_dec (by decide +kernel)) rfl ?_
                                refine g_iconst (z := 1) (v := 1) (lw_dec (by decide +kernel)) rfl ?_
                                refine g_iadd (lw_dec (by decide +kernel)) ?_
                                refine x_sld hf rfl (lw_dec (by decide +kernel)) (fun x81 hf => ?_)
                                refine x_callVI (as := [.int x81]) Vi_Top_perform Vs_Top_perform (hs.k k_0) rfl hf (fun q hq => t_Top_perform hs  hq) Y_Top_perform L_Lw_64 (lw_dec (by decide +kernel)) rfl rfl (Nat.le_of_ble_eq_true rfl) (by decide) (by decide) (by decide) (fun q82 hf hs => ?_)
                                refine g_aload_n (i := 2) (lw_dec (by decide +kernel)) rfl ?_
                                refine g_aload_ns (i := 0) (lw_dec (by decide +kernel)) rfl ?_
                                refine g_iload_n (i := 3) (lw_dec (by decide +kernel)) rfl ?_
                                refine g_iconst (z := 1) (v := 1) (lw_dec (by decide +kernel)) rfl ?_
                                refine g_iadd (lw_dec (by decide +kernel)) ?_
                                refine x_sld hf rfl (lw_dec (by decide +kernel)) (fun x83 hf => ?_)
                                refine x_callVI (as := [.int x83]) Vi_Mod_perform Vs_Mod_perform (hs.k k_136) rfl hf (fun q hq => t_Mod_perform hs  hq) Y_Mod_perform L_Lw_67 (lw_dec (by decide +kernel)) rfl rfl (Nat.le_of_ble_eq_true rfl) (by decide) (by decide) (by decide) (fun q84 hf hs => ?_)
                                refine x_icmp_eq (off := 826) (tgt := 1414) hf (lw_dec (by decide +kernel)) (by decide) (fun c85 hf => ?_) (fun c85 hf => ?_)
                                · refine g_iinc (i := 3) (z := 6) (v := (v3 + (6 : Int32))) (lw_dec (by decide +kernel)) rfl rfl rfl (show (3 : Nat) < 4 by decide) (ls1 := [(0, .retAddr 100), (1, .ref 0), (2, .ref 136), (3, .int (v3 + (6 : Int32)))]) rfl ?_
                                  refine g_goto (off := (-1399)) (tgt := 18) (lw_dec (by decide +kernel)) (by decide) ?_
                                  exact am_G.forget (am_subp [0, 1, 2, 3] rfl) (ih _ _ _ hs hf)
                                · refine g_iconst (z := 0) (v := 0) (lw_dec (by decide +kernel)) rfl ?_
                                  exact x_zret rfl hf hs (lw_dec (by decide +kernel)) rfl (by decide) (by decide)
                              · rw [if_neg e12] at hf
                                by_cases e13 : (x2 &&& (63 : Int32)) = (13 : Int32)
                                · rw [if_pos e13] at hf
                                  have ex : Int32.toInt (x2 &&& (63 : Int32)) = 13 := by rw [e13]; rfl
                                  refine x_tabIn (dflt := 1381) (lo := 0) (hi := 38) (offs := #[171, 234, 257, 280, 303, 336, 369, 402, 435, 458, 481, 504, 537, 560, 593, 626, 669, 713, 746, 779, 812, 825, 848, 871, 884, 907, 920, 933, 946, 989, 1022, 1055, 1109, 1152, 1195, 1269, 1312, 1335, 1358]) (len := 171) (off := 560) (tgt := 593) (lw_dec (by decide +kernel)) (by rw [ex]; decide) (by rw [ex]; decide) (by rw [ex]; rfl) (by decide) ?_
                                  refine g_aload_n (i := 1) (lw_dec (by decide +kernel)) rfl ?_
                                  refine g_aload_ns (i := 0) (lw_dec (by decide +kernel)) rfl ?_
                                  refine g_iload_n (i := 3) (lw_dec (by decide +kernel)) rfl ?_
                                  refine g_iconst (z := 1) (v := 1) (lw_dec (by decide +kernel)) rfl ?_
                                  refine g_iadd (lw_dec (by decide +kernel)) ?_
                                  refine x_sld hf rfl (lw_dec (by decide +kernel)) (fun x86 hf => ?_)
                                  refine g_aload_ns (i := 0) (lw_dec (by decide +kernel)) rfl ?_
                                  refine g_iload_n (i := 3) (lw_dec (by decide +kernel)) rfl ?_
                                  refine g_iconst (z := 2) (v := 2) (lw_dec (by decide +kernel)) rfl ?_
                                  refine g_iadd (lw_dec (by decide +kernel)) ?_
                                  refine x_sld hf rfl (lw_dec (by decide +kernel)) (fun x87 hf => ?_)
                                  refine x_callVI (as := [.int x86, .int x87]) Vi_Top_year Vs_Top_year (hs.k k_0) rfl hf (fun q hq => t_Top_year hs  hq) Y_Top_year L_Lw_68 (lw_dec (by decide +kernel)) rfl rfl (Nat.le_of_ble_eq_true rfl) (by decide) (by decide) (by decide) (fun q88 hf hs => ?_)
                                  refine g_aload_n (i := 2) (lw_dec (by decide +kernel)) rfl ?_
                                  refine g_aload_ns (i := 0) (lw_dec (by decide +kernel)) rfl ?_
                                  refine g_iload_n (i := 3) (lw_dec (by decide +kernel)) rfl ?_
                                  refine g_iconst (z := 1) (v := 1) (lw_dec (by decide +kernel)) rfl ?_
                                  refine g_iadd (lw_dec (by decide +kernel)) ?_
                                  refine x_sld hf rfl (lw_dec (by decide +kernel)) (fun x89 hf => ?_)
                                  refine g_aload_ns (i := 0) (lw_dec (by decide +kernel)) rfl ?_
                                  refine g_iload_n (i := 3) (lw_dec (by decide +kernel)) rfl ?_
                                  refine g_iconst (z := 2) (v := 2) (lw_dec (by decide +kernel)) rfl ?_
                                  refine g_iadd (lw_dec (by decide +kernel)) ?_
                                  refine x_sld hf rfl (lw_dec (by decide +kernel)) (fun x90 hf => ?_)
                                  refine x_callVI (as := [.int x89, .int x90]) Vi_Mod_year Vs_Mod_year (hs.k k_136) rfl hf (fun q hq => t_Mod_year hs  hq) Y_Mod_year L_Lw_71 (lw_dec (by decide +kernel)) rfl rfl (Nat.le_of_ble_eq_true rfl) (by decide) (by decide) (by decide) (fun q91 hf hs => ?_)
                                  refine x_icmp_eq (off := 793) (tgt := 1414) hf (lw_dec (by decide +kernel)) (by decide) (fun c92 hf => ?_) (fun c92 hf => ?_)
                                  · refine g_iinc (i := 3) (z := 6) (v := (v3 + (6 : Int32))) (lw_dec (by decide +kernel)) rfl rfl rfl (show (3 : Nat) < 4 by decide) (ls1 := [(0, .retAddr 100), (1, .ref 0), (2, .ref 136), (3, .int (v3 + (6 : Int32)))]) rfl ?_
                                    refine g_goto (off := (-1399)) (tgt := 18) (lw_dec (by decide +kernel)) (by decide) ?_
                                    exact am_G.forget (am_subp [0, 1, 2, 3] rfl) (ih _ _ _ hs hf)
                                  · refine g_iconst (z := 0) (v := 0) (lw_dec (by decide +kernel)) rfl ?_
                                    exact x_zret rfl hf hs (lw_dec (by decide +kernel)) rfl (by decide) (by decide)
                                · rw [if_neg e13] at hf
                                  by_cases e14 : (x2 &&& (63 : Int32)) = (14 : Int32)
                                  · rw [if_pos e14] at hf
                                    have ex : Int32.toInt (x2 &&& (63 : Int32)) = 14 := by rw [e14]; rfl
                                    refine x_tabIn (dflt := 1381) (lo := 0) (hi := 38) (offs := #[171, 234, 257, 280, 303, 336, 369, 402, 435, 458, 481, 504, 537, 560, 593, 626, 669, 713, 746, 779, 812, 825, 848, 871, 884, 907, 920, 933, 946, 989, 1022, 1055, 1109, 1152, 1195, 1269, 1312, 1335, 1358]) (len := 171) (off := 593) (tgt := 626) (lw_dec (by decide +kernel)) (by rw [ex]; decide) (by rw [ex]; decide) (by rw [ex]; rfl) (by decide) ?_
                                    refine g_aload_n (i := 1) (lw_dec (by decide +kernel)) rfl ?_
                                    refine g_aload_ns (i := 0) (lw_dec (by decide +kernel)) rfl ?_
                                    refine g_iload_n (i := 3) (lw_dec (by decide +kernel)) rfl ?_
                                    refine g_iconst (z := 1) (v := 1) (lw_dec (by decide +kernel)) rfl ?_
                                    refine g_iadd (lw_dec (by decide +kernel)) ?_
                                    refine x_sld hf rfl (lw_dec (by decide +kernel)) (fun x93 hf => ?_)
                                    refine g_aload_ns (i := 0) (lw_dec (by decide +kernel)) rfl ?_
                                    refine g_iload_n (i := 3) (lw_dec (by decide +kernel)) rfl ?_
                                    refine g_iconst (z := 2) (v := 2) (lw_dec (by decide +kernel)) rfl ?_
                                    refine g_iadd (lw_dec (by decide +kernel)) ?_
                                    refine x_sld hf rfl (lw_dec (by decide +kernel)) (fun x94 hf => ?_)
                                    refine x_callVIp (as := [.int x93, .int x94]) Vi_Top_soonest Vs_Top_soonest (hs.k k_0) rfl hf (fun q hq => t_Top_soonest hs  hq) Y_Top_soonest L_Lw_72 (lw_dec (by decide +kernel)) rfl rfl (Nat.le_of_ble_eq_true rfl) (by decide) (by decide) (by decide) (fun q95 hf => ?_)
                                    refine g_aload_n (i := 2) (lw_dec (by decide +kernel)) rfl ?_
                                    refine g_aload_ns (i := 0) (lw_dec (by decide +kernel)) rfl ?_
                                    refine g_iload_n (i := 3) (lw_dec (by decide +kernel)) rfl ?_
                                    refine g_iconst (z := 1) (v := 1) (lw_dec (by decide +kernel)) rfl ?_
                                    refine g_iadd (lw_dec (by decide +kernel)) ?_
                                    refine x_sld hf rfl (lw_dec (by decide +kernel)) (fun x96 hf => ?_)
                                    refine g_aload_ns (i := 0) (lw_dec (by decide +kernel)) rfl ?_
                                    refine g_iload_n (i := 3) (lw_dec (by decide +kernel)) rfl ?_
                                    refine g_iconst (z := 2) (v := 2) (lw_dec (by decide +kernel)) rfl ?_
                                    refine g_iadd (lw_dec (by decide +kernel)) ?_
                                    refine x_sld hf rfl (lw_dec (by decide +kernel)) (fun x97 hf => ?_)
                                    refine x_callVI (as := [.int x96, .int x97]) Vi_Mod_soonest Vs_Mod_soonest (hs.k k_136) rfl hf (fun q hq => t_Mod_soonest hs  hq) Y_Mod_soonest L_Lw_75 (lw_dec (by decide +kernel)) rfl rfl (Nat.le_of_ble_eq_true rfl) (by decide) (by decide) (by decide) (fun q98 hf hs => ?_)
                                    refine x_icmp_eq (off := 760) (tgt := 1414) hf (lw_dec (by decide +kernel)) (by decide) (fun c99 hf => ?_) (fun c99 hf => ?_)
                                    · refine g_iinc (i := 3) (z := 6) (v := (v3 + (6 : Int32))) (lw_dec (by decide +kernel)) rfl rfl rfl (show (3 : Nat) < 4 by decide) (ls1 := [(0, .retAddr 100), (1, .ref 0), (2, .ref 136), (3, .int (v3 + (6 : Int32)))]) rfl ?_
                                      refine g_goto (off := (-1399)) (tgt := 18) (lw_dec (by decide +kernel)) (by decide) ?_
                                      exact am_G.forget (am_subp [0, 1, 2, 3] rfl) (ih _ _ _ hs hf)
                                    · refine g_iconst (z := 0) (v := 0) (lw_dec (by decide +kernel)) rfl ?_
                                      exact x_zret rfl hf hs (lw_dec (by decide +kernel)) rfl (by decide) (by decide)
                                  · rw [if_neg e14] at hf
                                    by_cases e15 : (x2 &&& (63 : Int32)) = (15 : Int32)
                                    · rw [if_pos e15] at hf
                                      have ex : Int32.toInt (x2 &&& (63 : Int32)) = 15 := by rw [e15]; rfl
                                      refine x_tabIn (dflt := 1381) (lo := 0) (hi := 38) (offs := #[171, 234, 257, 280, 303, 336, 369, 402, 435, 458, 481, 504, 537, 560, 593, 626, 669, 713, 746, 779, 812, 825, 848, 871, 884, 907, 920, 933, 946, 989, 1022, 1055, 1109, 1152, 1195, 1269, 1312, 1335, 1358]) (len := 171) (off := 626) (tgt := 659) (lw_dec (by decide +kernel)) (by rw [ex]; decide) (by rw [ex]; decide) (by rw [ex]; rfl) (by decide) ?_
                                      refine g_aload_n (i := 1) (lw_dec (by decide +kernel)) rfl ?_
                                      refine g_aload_ns (i := 0) (lw_dec (by decide +kernel)) rfl ?_
                                      refine g_iload_n (i := 3) (lw_dec (by decide +kernel)) rfl ?_
                                      refine g_iconst (z := 1) (v := 1) (lw_dec (by decide +kernel)) rfl ?_
                                      refine g_iadd (lw_dec (by decide +kernel)) ?_
                                      refine x_sld hf rfl (lw_dec (by decide +kernel)) (fun x100 hf => ?_)
                                      refine g_aload_ns (i := 0) (lw_dec (by decide +kernel)) rfl ?_
                                      refine g_iload_n (i := 3) (lw_dec (by decide +kernel)) rfl ?_
                                      refine g_iconst (z := 2) (v := 2) (lw_dec (by decide +kernel)) rfl ?_
                                      refine g_iadd (lw_dec (by decide +kernel)) ?_
                                      refine x_sld hf rfl (lw_dec (by decide +kernel)) (fun x101 hf => ?_)
                                      refine g_aload_ns (i := 0) (lw_dec (by decide +kernel)) rfl ?_
                                      refine g_iload_n (i := 3) (lw_dec (by decide +kernel)) rfl ?_
                                      refine g_iconst (z := 3) (v := 3) (lw_dec (by decide +kernel)) rfl ?_
                                      refine g_iadd (lw_dec (by decide +kernel)) ?_
                                      refine x_sld hf rfl (lw_dec (by decide +kernel)) (fun x102 hf => ?_)
                                      refine x_callVI (as := [.int x100, .int x101, .int x102]) Vi_Top_way Vs_Top_way (hs.k k_0) rfl hf (fun q hq => t_Top_way hs  hq) Y_Top_way L_Lw_76 (lw_dec (by decide +kernel)) rfl rfl (Nat.le_of_ble_eq_true rfl) (by decide) (by decide) (by decide) (fun q103 hf hs => ?_)
                                      refine g_aload_n (i := 2) (lw_dec (by decide +kernel)) rfl ?_
                                      refine g_aload_ns (i := 0) (lw_dec (by decide +kernel)) rfl ?_
                                      refine g_iload_n (i := 3) (lw_dec (by decide +kernel)) rfl ?_
                                      refine g_iconst (z := 1) (v := 1) (lw_dec (by decide +kernel)) rfl ?_
                                      refine g_iadd (lw_dec (by decide +kernel)) ?_
                                      refine x_sld hf rfl (lw_dec (by decide +kernel)) (fun x104 hf => ?_)
                                      refine g_aload_ns (i := 0) (lw_dec (by decide +kernel)) rfl ?_
                                      refine g_iload_n (i := 3) (lw_dec (by decide +kernel)) rfl ?_
                                      refine g_iconst (z := 2) (v := 2) (lw_dec (by decide +kernel)) rfl ?_
                                      refine g_iadd (lw_dec (by decide +kernel)) ?_
                                      refine x_sld hf rfl (lw_dec (by decide +kernel)) (fun x105 hf => ?_)
                                      refine g_aload_ns (i := 0) (lw_dec (by decide +kernel)) rfl ?_
                                      refine g_iload_n (i := 3) (lw_dec (by decide +kernel)) rfl ?_
                                      refine g_iconst (z := 3) (v := 3) (lw_dec (by decide +kernel)) rfl ?_
                                      refine g_iadd (lw_dec (by decide +kernel)) ?_
                                      refine x_sld hf rfl (lw_dec (by decide +kernel)) (fun x106 hf => ?_)
                                      refine x_callVI (as := [.int x104, .int x105, .int x106]) Vi_Mod_way Vs_Mod_way (hs.k k_136) rfl hf (fun q hq => t_Mod_way hs  hq) Y_Mod_way L_Lw_80 (lw_dec (by decide +kernel)) rfl rfl (Nat.le_of_ble_eq_true rfl) (by decide) (by decide) (by decide) (fun q107 hf hs => ?_)
                                      refine x_icmp_eq (off := 717) (tgt := 1414) hf (lw_dec (by decide +kernel)) (by decide) (fun c108 hf => ?_) (fun c108 hf => ?_)
                                      · refine g_iinc (i := 3) (z := 6) (v := (v3 + (6 : Int32))) (lw_dec (by decide +kernel)) rfl rfl rfl (show (3 : Nat) < 4 by decide) (ls1 := [(0, .retAddr 100), (1, .ref 0), (2, .ref 136), (3, .int (v3 + (6 : Int32)))]) rfl ?_
                                        refine g_goto (off := (-1399)) (tgt := 18) (lw_dec (by decide +kernel)) (by decide) ?_
                                        exact am_G.forget (am_subp [0, 1, 2, 3] rfl) (ih _ _ _ hs hf)
                                      · refine g_iconst (z := 0) (v := 0) (lw_dec (by decide +kernel)) rfl ?_
                                        exact x_zret rfl hf hs (lw_dec (by decide +kernel)) rfl (by decide) (by decide)
                                    · rw [if_neg e15] at hf
                                      by_cases e16 : (x2 &&& (63 : Int32)) = (16 : Int32)
                                      · rw [if_pos e16] at hf
                                        have ex : Int32.toInt (x2 &&& (63 : Int32)) = 16 := by rw [e16]; rfl
                                        refine x_tabIn (dflt := 1381) (lo := 0) (hi := 38) (offs := #[171, 234, 257, 280, 303, 336, 369, 402, 435, 458, 481, 504, 537, 560, 593, 626, 669, 713, 746, 779, 812, 825, 848, 871, 884, 907, 920, 933, 946, 989, 1022, 1055, 1109, 1152, 1195, 1269, 1312, 1335, 1358]) (len := 171) (off := 669) (tgt := 702) (lw_dec (by decide +kernel)) (by rw [ex]; decide) (by rw [ex]; decide) (by rw [ex]; rfl) (by decide) ?_
                                        refine g_aload_n (i := 1) (lw_dec (by decide +kernel)) rfl ?_
                                        refine g_aload_ns (i := 0) (lw_dec (by decide +kernel)) rfl ?_
                                        refine g_iload_n (i := 3) (lw_dec (by decide +kernel)) rfl ?_
                                        refine g_iconst (z := 1) (v := 1) (lw_dec (by decide +kernel)) rfl ?_
                                        refine g_iadd (lw_dec (by decide +kernel)) ?_
                                        refine x_sld hf rfl (lw_dec (by decide +kernel)) (fun x109 hf => ?_)
                                        refine g_aload_ns (i := 0) (lw_dec (by decide +kernel)) rfl ?_
                                        refine g_iload_n (i := 3) (lw_dec (by decide +kernel)) rfl ?_
                                        refine g_iconst (z := 2) (v := 2) (lw_dec (by decide +kernel)) rfl ?_
                                        refine g_iadd (lw_dec (by decide +kernel)) ?_
                                        refine x_sld hf rfl (lw_dec (by decide +kernel)) (fun x110 hf => ?_)
                                        refine g_aload_ns (i := 0) (lw_dec (by decide +kernel)) rfl ?_
                                        refine g_iload_n (i := 3) (lw_dec (by decide +kernel)) rfl ?_
                                        refine g_iconst (z := 3) (v := 3) (lw_dec (by decide +kernel)) rfl ?_
                                        refine g_iadd (lw_dec (by decide +kernel)) ?_
                                        refine x_sld hf rfl (lw_dec (by decide +kernel)) (fun x111 hf => ?_)
                                        refine x_callVJ (as := [.int x109, .int x110, .int x111]) Vi_Top_ways Vs_Top_ways (hs.k k_0) rfl hf (fun q hq => t_Top_ways hs  hq) Y_Top_ways L_Lw_81 (lw_dec (by decide +kernel)) rfl rfl (Nat.le_of_ble_eq_true rfl) (by decide) (by decide) (by decide) (fun q112 hf hs => ?_)
                                        refine g_aload_n (i := 2) (lw_dec (by decide +kernel)) rfl ?_
                                        refine g_aload_ns (i := 0) (lw_dec (by decide +kernel)) rfl ?_
                                        refine g_iload_n (i := 3) (lw_dec (by decide +kernel)) rfl ?_
                                        refine g_iconst (z := 1) (v := 1) (lw_dec (by decide +kernel)) rfl ?_
                                        refine g_iadd (lw_dec (by decide +kernel)) ?_
                                        refine x_sld hf rfl (lw_dec (by decide +kernel)) (fun x113 hf => ?_)
                                        refine g_aload_ns (i := 0) (lw_dec (by decide +kernel)) rfl ?_
                                        refine g_iload_n (i := 3) (lw_dec (by decide +kernel)) rfl ?_
                                        refine g_iconst (z := 2) (v := 2) (lw_dec (by decide +kernel)) rfl ?_
                                        refine g_iadd (lw_dec (by decide +kernel)) ?_
                                        refine x_sld hf rfl (lw_dec (by decide +kernel)) (fun x114 hf => ?_)
                                        refine g_aload_ns (i := 0) (lw_dec (by decide +kernel)) rfl ?_
                                        refine g_iload_n (i := 3) (lw_dec (by decide +kernel)) rfl ?_
                                        refine g_iconst (z := 3) (v := 3) (lw_dec (by decide +kernel)) rfl ?_
                                        refine g_iadd (lw_dec (by decide +kernel)) ?_
                                        refine x_sld hf rfl (lw_dec (by decide +kernel)) (fun x115 hf => ?_)
                                        refine x_callVJ (as := [.int x113, .int x114, .int x115]) Vi_Mod_ways Vs_Mod_ways (hs.k k_136) rfl hf (fun q hq => t_Mod_ways hs  hq) Y_Mod_ways L_Lw_85 (lw_dec (by decide +kernel)) rfl rfl (Nat.le_of_ble_eq_true rfl) (by decide) (by decide) (by decide) (fun q116 hf hs => ?_)
                                        refine g_lcmp (lw_dec (by decide +kernel)) ?_
                                        refine x_if_eq (off := 673) (tgt := 1414) hf (lw_dec (by decide +kernel)) (by decide) (fun c117 hf => ?_) (fun c117 hf => ?_)
                                        · refine g_iinc (i := 3) (z := 6) (v := (v3 + (6 : Int32))) (lw_dec (by decide +kernel)) rfl rfl rfl (show (3 : Nat) < 4 by decide) (ls1 := [(0, .retAddr 100), (1, .ref 0), (2, .ref 136), (3, .int (v3 + (6 : Int32)))]) rfl ?_
                                          refine g_goto (off := (-1399)) (tgt := 18) (lw_dec (by decide +kernel)) (by decide) ?_
                                          exact am_G.forget (am_subp [0, 1, 2, 3] rfl) (ih _ _ _ hs hf)
                                        · refine g_iconst (z := 0) (v := 0) (lw_dec (by decide +kernel)) rfl ?_
                                          exact x_zret rfl hf hs (lw_dec (by decide +kernel)) rfl (by decide) (by decide)
                                      · rw [if_neg e16] at hf
                                        by_cases e17 : (x2 &&& (63 : Int32)) = (17 : Int32)
                                        · rw [if_pos e17] at hf
                                          have ex : Int32.toInt (x2 &&& (63 : Int32)) = 17 := by rw [e17]; rfl
                                          refine x_tabIn (dflt := 1381) (lo := 0) (hi := 38) (offs := #[171, 234, 257, 280, 303, 336, 369, 402, 435, 458, 481, 504, 537, 560, 593, 626, 669, 713, 746, 779, 812, 825, 848, 871, 884, 907, 920, 933, 946, 989, 1022, 1055, 1109, 1152, 1195, 1269, 1312, 1335, 1358]) (len := 171) (off := 713) (tgt := 746) (lw_dec (by decide +kernel)) (by rw [ex]; decide) (by rw [ex]; decide) (by rw [ex]; rfl) (by decide) ?_
                                          refine g_aload_n (i := 1) (lw_dec (by decide +kernel)) rfl ?_
                                          refine g_aload_ns (i := 0) (lw_dec (by decide +kernel)) rfl ?_
                                          refine g_iload_n (i := 3) (lw_dec (by decide +kernel)) rfl ?_
                                          refine g_iconst (z := 1) (v := 1) (lw_dec (by decide +kernel)) rfl ?_
                                          refine g_iadd (lw_dec (by decide +kernel)) ?_
                                          refine x_sld hf rfl (lw_dec (by decide +kernel)) (fun x118 hf => ?_)
                                          refine g_aload_ns (i := 0) (lw_dec (by decide +kernel)) rfl ?_
                                          refine g_iload_n (i := 3) (lw_dec (by decide +kernel)) rfl ?_
                                          refine g_iconst (z := 2) (v := 2) (lw_dec (by decide +kernel)) rfl ?_
                                          refine g_iadd (lw_dec (by decide +kernel)) ?_
                                          refine x_sld hf rfl (lw_dec (by decide +kernel)) (fun x119 hf => ?_)
                                          refine x_callVIp (as := [.int x118, .int x119]) Vi_Top_reach Vs_Top_reach (hs.k k_0) rfl hf (fun q hq => t_Top_reach hs  hq) Y_Top_reach L_Lw_86 (lw_dec (by decide +kernel)) rfl rfl (Nat.le_of_ble_eq_true rfl) (by decide) (by decide) (by decide) (fun q120 hf => ?_)
                                          refine g_aload_n (i := 2) (lw_dec (by decide +kernel)) rfl ?_
                                          refine g_aload_ns (i := 0) (lw_dec (by decide +kernel)) rfl ?_
                                          refine g_iload_n (i := 3) (lw_dec (by decide +kernel)) rfl ?_
                                          refine g_iconst (z := 1) (v := 1) (lw_dec (by decide +kernel)) rfl ?_
                                          refine g_iadd (lw_dec (by decide +kernel)) ?_
                                          refine x_sld hf rfl (lw_dec (by decide +kernel)) (fun x121 hf => ?_)
                                          refine g_aload_ns (i := 0) (lw_dec (by decide +kernel)) rfl ?_
                                          refine g_iload_n (i := 3) (lw_dec (by decide +kernel)) rfl ?_
                                          refine g_iconst (z := 2) (v := 2) (lw_dec (by decide +kernel)) rfl ?_
                                          refine g_iadd (lw_dec (by decide +kernel)) ?_
                                          refine x_sld hf rfl (lw_dec (by decide +kernel)) (fun x122 hf => ?_)
                                          refine x_callVI (as := [.int x121, .int x122]) Vi_Mod_reach Vs_Mod_reach (hs.k k_136) rfl hf (fun q hq => t_Mod_reach hs  hq) Y_Mod_reach L_Lw_89 (lw_dec (by decide +kernel)) rfl rfl (Nat.le_of_ble_eq_true rfl) (by decide) (by decide) (by decide) (fun q123 hf hs => ?_)
                                          refine x_icmp_eq (off := 640) (tgt := 1414) hf (lw_dec (by decide +kernel)) (by decide) (fun c124 hf => ?_) (fun c124 hf => ?_)
                                          · refine g_iinc (i := 3) (z := 6) (v := (v3 + (6 : Int32))) (lw_dec (by decide +kernel)) rfl rfl rfl (show (3 : Nat) < 4 by decide) (ls1 := [(0, .retAddr 100), (1, .ref 0), (2, .ref 136), (3, .int (v3 + (6 : Int32)))]) rfl ?_
                                            refine g_goto (off := (-1399)) (tgt := 18) (lw_dec (by decide +kernel)) (by decide) ?_
                                            exact am_G.forget (am_subp [0, 1, 2, 3] rfl) (ih _ _ _ hs hf)
                                          · refine g_iconst (z := 0) (v := 0) (lw_dec (by decide +kernel)) rfl ?_
                                            exact x_zret rfl hf hs (lw_dec (by decide +kernel)) rfl (by decide) (by decide)
                                        · rw [if_neg e17] at hf
                                          by_cases e18 : (x2 &&& (63 : Int32)) = (18 : Int32)
                                          · rw [if_pos e18] at hf
                                            have ex : Int32.toInt (x2 &&& (63 : Int32)) = 18 := by rw [e18]; rfl
                                            refine x_tabIn (dflt := 1381) (lo := 0) (hi := 38) (offs := #[171, 234, 257, 280, 303, 336, 369, 402, 435, 458, 481, 504, 537, 560, 593, 626, 669, 713, 746, 779, 812, 825, 848, 871, 884, 907, 920, 933, 946, 989, 1022, 1055, 1109, 1152, 1195, 1269, 1312, 1335, 1358]) (len := 171) (off := 746) (tgt := 779) (lw_dec (by decide +kernel)) (by rw [ex]; decide) (by rw [ex]; decide) (by rw [ex]; rfl) (by decide) ?_
                                            refine g_aload_n (i := 1) (lw_dec (by decide +kernel)) rfl ?_
                                            refine g_aload_ns (i := 0) (lw_dec (by decide +kernel)) rfl ?_
                                            refine g_iload_n (i := 3) (lw_dec (by decide +kernel)) rfl ?_
                                            refine g_iconst (z := 1) (v := 1) (lw_dec (by decide +kernel)) rfl ?_
                                            refine g_iadd (lw_dec (by decide +kernel)) ?_
                                            refine x_sld hf rfl (lw_dec (by decide +kernel)) (fun x125 hf => ?_)
                                            refine g_aload_ns (i := 0) (lw_dec (by decide +kernel)) rfl ?_
                                            refine g_iload_n (i := 3) (lw_dec (by decide +kernel)) rfl ?_
                                            refine g_iconst (z := 2) (v := 2) (lw_dec (by decide +kernel)) rfl ?_
                                            refine g_iadd (lw_dec (by decide +kernel)) ?_
                                            refine x_sld hf rfl (lw_dec (by decide +kernel)) (fun x126 hf => ?_)
                                            refine x_callVIp (as := [.int x125, .int x126]) Vi_Top_meet Vs_Top_meet (hs.k k_0) rfl hf (fun q hq => t_Top_meet hs  hq) Y_Top_meet L_Lw_90 (lw_dec (by decide +kernel)) rfl rfl (Nat.le_of_ble_eq_true rfl) (by decide) (by decide) (by decide) (fun q127 hf => ?_)
                                            refine g_aload_n (i := 2) (lw_dec (by decide +kernel)) rfl ?_
                                            refine g_aload_ns (i := 0) (lw_dec (by decide +kernel)) rfl ?_
                                            refine g_iload_n (i := 3) (lw_dec (by decide +kernel)) rfl ?_
                                            refine g_iconst (z := 1) (v := 1) (lw_dec (by decide +kernel)) rfl ?_
                                            refine g_iadd (lw_dec (by decide +kernel)) ?_
                                            refine x_sld hf rfl (lw_dec (by decide +kernel)) (fun x128 hf => ?_)
                                            refine g_aload_ns (i := 0) (lw_dec (by decide +kernel)) rfl ?_
                                            refine g_iload_n (i := 3) (lw_dec (by decide +kernel)) rfl ?_
                                            refine g_iconst (z := 2) (v := 2) (lw_dec (by decide +kernel)) rfl ?_
                                            refine g_iadd (lw_dec (by decide +kernel)) ?_
                                            refine x_sld hf rfl (lw_dec (by decide +kernel)) (fun x129 hf => ?_)
                                            refine x_callVI (as := [.int x128, .int x129]) Vi_Mod_meet Vs_Mod_meet (hs.k k_136) rfl hf (fun q hq => t_Mod_meet hs  hq) Y_Mod_meet L_Lw_93 (lw_dec (by decide +kernel)) rfl rfl (Nat.le_of_ble_eq_true rfl) (by decide) (by decide) (by decide) (fun q130 hf hs => ?_)
                                            refine x_icmp_eq (off := 607) (tgt := 1414) hf (lw_dec (by decide +kernel)) (by decide) (fun c131 hf => ?_) (fun c131 hf => ?_)
                                            · refine g_iinc (i := 3) (z := 6) (v := (v3 + (6 : Int32))) (lw_dec (by decide +kernel)) rfl rfl rfl (show (3 : Nat) < 4 by decide) (ls1 := [(0, .retAddr 100), (1, .ref 0), (2, .ref 136), (3, .int (v3 + (6 : Int32)))]) rfl ?_
                                              refine g_goto (off := (-1399)) (tgt := 18) (lw_dec (by decide +kernel)) (by decide) ?_
                                              exact am_G.forget (am_subp [0, 1, 2, 3] rfl) (ih _ _ _ hs hf)
                                            · refine g_iconst (z := 0) (v := 0) (lw_dec (by decide +kernel)) rfl ?_
                                              exact x_zret rfl hf hs (lw_dec (by decide +kernel)) rfl (by decide) (by decide)
                                          · rw [if_neg e18] at hf
                                            by_cases e19 : (x2 &&& (63 : Int32)) = (19 : Int32)
                                            · rw [if_pos e19] at hf
                                              have ex : Int32.toInt (x2 &&& (63 : Int32)) = 19 := by rw [e19]; rfl
                                              refine x_tabIn (dflt := 1381) (lo := 0) (hi := 38) (offs := #[171, 234, 257, 280, 303, 336, 369, 402, 435, 458, 481, 504, 537, 560, 593, 626, 669, 713, 746, 779, 812, 825, 848, 871, 884, 907, 920, 933, 946, 989, 1022, 1055, 1109, 1152, 1195, 1269, 1312, 1335, 1358]) (len := 171) (off := 779) (tgt := 812) (lw_dec (by decide +kernel)) (by rw [ex]; decide) (by rw [ex]; decide) (by rw [ex]; rfl) (by decide) ?_
                                              refine g_aload_n (i := 1) (lw_dec (by decide +kernel)) rfl ?_
                                              refine g_aload_ns (i := 0) (lw_dec (by decide +kernel)) rfl ?_
                                              refine g_iload_n (i := 3) (lw_dec (by decide +kernel)) rfl ?_
                                              refine g_iconst (z := 1) (v := 1) (lw_dec (by decide +kernel)) rfl ?_
                                              refine g_iadd (lw_dec (by decide +kernel)) ?_
                                              refine x_sld hf rfl (lw_dec (by decide +kernel)) (fun x132 hf => ?_)
                                              refine g_aload_ns (i := 0) (lw_dec (by decide +kernel)) rfl ?_
                                              refine g_iload_n (i := 3) (lw_dec (by decide +kernel)) rfl ?_
                                              refine g_iconst (z := 2) (v := 2) (lw_dec (by decide +kernel)) rfl ?_
                                              refine g_iadd (lw_dec (by decide +kernel)) ?_
                                              refine x_sld hf rfl (lw_dec (by decide +kernel)) (fun x133 hf => ?_)
                                              refine x_callVIp (as := [.int x132, .int x133]) Vi_Top_meetAt Vs_Top_meetAt (hs.k k_0) rfl hf (fun q hq => t_Top_meetAt hs  hq) Y_Top_meetAt L_Lw_94 (lw_dec (by decide +kernel)) rfl rfl (Nat.le_of_ble_eq_true rfl) (by decide) (by decide) (by decide) (fun q134 hf => ?_)
                                              refine g_aload_n (i := 2) (lw_dec (by decide +kernel)) rfl ?_
                                              refine g_aload_ns (i := 0) (lw_dec (by decide +kernel)) rfl ?_
                                              refine g_iload_n (i := 3) (lw_dec (by decide +kernel)) rfl ?_
                                              refine g_iconst (z := 1) (v := 1) (lw_dec (by decide +kernel)) rfl ?_
                                              refine g_iadd (lw_dec (by decide +kernel)) ?_
                                              refine x_sld hf rfl (lw_dec (by decide +kernel)) (fun x135 hf => ?_)
                                              refine g_aload_ns (i := 0) (lw_dec (by decide +kernel)) rfl ?_
                                              refine g_iload_n (i := 3) (lw_dec (by decide +kernel)) rfl ?_
                                              refine g_iconst (z := 2) (v := 2) (lw_dec (by decide +kernel)) rfl ?_
                                              refine g_iadd (lw_dec (by decide +kernel)) ?_
                                              refine x_sld hf rfl (lw_dec (by decide +kernel)) (fun x136 hf => ?_)
                                              refine x_callVI (as := [.int x135, .int x136]) Vi_Mod_meetAt Vs_Mod_meetAt (hs.k k_136) rfl hf (fun q hq => t_Mod_meetAt hs  hq) Y_Mod_meetAt L_Lw_97 (lw_dec (by decide +kernel)) rfl rfl (Nat.le_of_ble_eq_true rfl) (by decide) (by decide) (by decide) (fun q137 hf hs => ?_)
                                              refine x_icmp_eq (off := 574) (tgt := 1414) hf (lw_dec (by decide +kernel)) (by decide) (fun c138 hf => ?_) (fun c138 hf => ?_)
                                              · refine g_iinc (i := 3) (z := 6) (v := (v3 + (6 : Int32))) (lw_dec (by decide +kernel)) rfl rfl rfl (show (3 : Nat) < 4 by decide) (ls1 := [(0, .retAddr 100), (1, .ref 0), (2, .ref 136), (3, .int (v3 + (6 : Int32)))]) rfl ?_
                                                refine g_goto (off := (-1399)) (tgt := 18) (lw_dec (by decide +kernel)) (by decide) ?_
                                                exact am_G.forget (am_subp [0, 1, 2, 3] rfl) (ih _ _ _ hs hf)
                                              · refine g_iconst (z := 0) (v := 0) (lw_dec (by decide +kernel)) rfl ?_
                                                exact x_zret rfl hf hs (lw_dec (by decide +kernel)) rfl (by decide) (by decide)
                                            · rw [if_neg e19] at hf
                                              by_cases e20 : (x2 &&& (63 : Int32)) = (20 : Int32)
                                              · rw [if_pos e20] at hf
                                                have ex : Int32.toInt (x2 &&& (63 : Int32)) = 20 := by rw [e20]; rfl
                                                refine x_tabIn (dflt := 1381) (lo := 0) (hi := 38) (offs := #[171, 234, 257, 280, 303, 336, 369, 402, 435, 458, 481, 504, 537, 560, 593, 626, 669, 713, 746, 779, 812, 825, 848, 871, 884, 907, 920, 933, 946, 989, 1022, 1055, 1109, 1152, 1195, 1269, 1312, 1335, 1358]) (len := 171) (off := 812) (tgt := 845) (lw_dec (by decide +kernel)) (by rw [ex]; decide) (by rw [ex]; decide) (by rw [ex]; rfl) (by decide) ?_
                                                refine g_aload_n (i := 1) (lw_dec (by decide +kernel)) rfl ?_
                                                refine x_callVIp (as := []) Vi_Top_inTime Vs_Top_inTime (hs.k k_0) rfl hf (fun q hq => t_Top_inTime hs  hq) Y_Top_inTime L_Lw_98 (lw_dec (by decide +kernel)) rfl rfl (Nat.le_of_ble_eq_true rfl) (by decide) (by decide) (by decide) (fun q139 hf => ?_)
                                                refine g_aload_n (i := 2) (lw_dec (by decide +kernel)) rfl ?_
                                                refine x_callVI (as := []) Vi_Mod_inTime Vs_Mod_inTime (hs.k k_136) rfl hf (fun q hq => t_Mod_inTime hs  hq) Y_Mod_inTime L_Lw_102 (lw_dec (by decide +kernel)) rfl rfl (Nat.le_of_ble_eq_true rfl) (by decide) (by decide) (by decide) (fun q140 hf hs => ?_)
                                                refine x_icmp_eq (off := 561) (tgt := 1414) hf (lw_dec (by decide +kernel)) (by decide) (fun c141 hf => ?_) (fun c141 hf => ?_)
                                                · refine g_iinc (i := 3) (z := 6) (v := (v3 + (6 : Int32))) (lw_dec (by decide +kernel)) rfl rfl rfl (show (3 : Nat) < 4 by decide) (ls1 := [(0, .retAddr 100), (1, .ref 0), (2, .ref 136), (3, .int (v3 + (6 : Int32)))]) rfl ?_
                                                  refine g_goto (off := (-1399)) (tgt := 18) (lw_dec (by decide +kernel)) (by decide) ?_
                                                  exact am_G.forget (am_subp [0, 1, 2, 3] rfl) (ih _ _ _ hs hf)
                                                · refine g_iconst (z := 0) (v := 0) (lw_dec (by decide +kernel)) rfl ?_
                                                  exact x_zret rfl hf hs (lw_dec (by decide +kernel)) rfl (by decide) (by decide)
                                              · rw [if_neg e20] at hf
                                                by_cases e21 : (x2 &&& (63 : Int32)) = (21 : Int32)
                                                · rw [if_pos e21] at hf
                                                  have ex : Int32.toInt (x2 &&& (63 : Int32)) = 21 := by rw [e21]; rfl
                                                  refine x_tabIn (dflt := 1381) (lo := 0) (hi := 38) (offs := #[171, 234, 257, 280, 303, 336, 369, 402, 435, 458, 481, 504, 537, 560, 593, 626, 669, 713, 746, 779, 812, 825, 848, 871, 884, 907, 920, 933, 946, 989, 1022, 1055, 1109, 1152, 1195, 1269, 1312, 1335, 1358]) (len := 171) (off := 825) (tgt := 858) (lw_dec (by decide +kernel)) (by rw [ex]; decide) (by rw [ex]; decide) (by rw [ex]; rfl) (by decide) ?_
                                                  refine g_aload_n (i := 1) (lw_dec (by decide +kernel)) rfl ?_
                                                  refine g_aload_ns (i := 0) (lw_dec (by decide +kernel)) rfl ?_
                                                  refine g_iload_n (i := 3) (lw_dec (by decide +kernel)) rfl ?_
                                                  refine g_iconst (z := 1) (v := 1) (lw_dec (by decide +kernel)) rfl ?_
                                                  refine g_iadd (lw_dec (by decide +kernel)) ?_
                                                  refine x_sld hf rfl (lw_dec (by decide +kernel)) (fun x142 hf => ?_)
                                                  refine x_callVIp (as := [.int x142]) Vi_Top_spare Vs_Top_spare (hs.k k_0) rfl hf (fun q hq => t_Top_spare hs  hq) Y_Top_spare L_Lw_103 (lw_dec (by decide +kernel)) rfl rfl (Nat.le_of_ble_eq_true rfl) (by decide) (by decide) (by decide) (fun q143 hf => ?_)
                                                  refine g_aload_n (i := 2) (lw_dec (by decide +kernel)) rfl ?_
                                                  refine g_aload_ns (i := 0) (lw_dec (by decide +kernel)) rfl ?_
                                                  refine g_iload_n (i := 3) (lw_dec (by decide +kernel)) rfl ?_
                                                  refine g_iconst (z := 1) (v := 1) (lw_dec (by decide +kernel)) rfl ?_
                                                  refine g_iadd (lw_dec (by decide +kernel)) ?_
                                                  refine x_sld hf rfl (lw_dec (by decide +kernel)) (fun x144 hf => ?_)
                                                  refine x_callVI (as := [.int x144]) Vi_Mod_spare Vs_Mod_spare (hs.k k_136) rfl hf (fun q hq => t_Mod_spare hs  hq) Y_Mod_spare L_Lw_106 (lw_dec (by decide +kernel)) rfl rfl (Nat.le_of_ble_eq_true rfl) (by decide) (by decide) (by decide) (fun q145 hf hs => ?_)
                                                  refine x_icmp_eq (off := 538) (tgt := 1414) hf (lw_dec (by decide +kernel)) (by decide) (fun c146 hf => ?_) (fun c146 hf => ?_)
                                                  · refine g_iinc (i := 3) (z := 6) (v := (v3 + (6 : Int32))) (lw_dec (by decide +kernel)) rfl rfl rfl (show (3 : Nat) < 4 by decide) (ls1 := [(0, .retAddr 100), (1, .ref 0), (2, .ref 136), (3, .int (v3 + (6 : Int32)))]) rfl ?_
                                                    refine g_goto (off := (-1399)) (tgt := 18) (lw_dec (by decide +kernel)) (by decide) ?_
                                                    exact am_G.forget (am_subp [0, 1, 2, 3] rfl) (ih _ _ _ hs hf)
                                                  · refine g_iconst (z := 0) (v := 0) (lw_dec (by decide +kernel)) rfl ?_
                                                    exact x_zret rfl hf hs (lw_dec (by decide +kernel)) rfl (by decide) (by decide)
                                                · rw [if_neg e21] at hf
                                                  by_cases e22 : (x2 &&& (63 : Int32)) = (22 : Int32)
                                                  · rw [if_pos e22] at hf
                                                    have ex : Int32.toInt (x2 &&& (63 : Int32)) = 22 := by rw [e22]; rfl
                                                    refine x_tabIn (dflt := 1381) (lo := 0) (hi := 38) (offs := #[171, 234, 257, 280, 303, 336, 369, 402, 435, 458, 481, 504, 537, 560, 593, 626, 669, 713, 746, 779, 812, 825, 848, 871, 884, 907, 920, 933, 946, 989, 1022, 1055, 1109, 1152, 1195, 1269, 1312, 1335, 1358]) (len := 171) (off := 848) (tgt := 881) (lw_dec (by decide +kernel)) (by rw [ex]; decide) (by rw [ex]; decide) (by rw [ex]; rfl) (by decide) ?_
                                                    refine g_aload_n (i := 1) (lw_dec (by decide +kernel)) rfl ?_
                                                    refine g_aload_ns (i := 0) (lw_dec (by decide +kernel)) rfl ?_
                                                    refine g_iload_n (i := 3) (lw_dec (by decide +kernel)) rfl ?_
                                                    refine g_iconst (z := 1) (v := 1) (lw_dec (by decide +kernel)) rfl ?_
                                                    refine g_iadd (lw_dec (by decide +kernel)) ?_
                                                    refine x_sld hf rfl (lw_dec (by decide +kernel)) (fun x147 hf => ?_)
                                                    refine x_callVI (as := [.int x147]) Vi_Top_needs Vs_Top_needs (hs.k k_0) rfl hf (fun q hq => t_Top_needs hs  hq) Y_Top_needs L_Lw_107 (lw_dec (by decide +kernel)) rfl rfl (Nat.le_of_ble_eq_true rfl) (by decide) (by decide) (by decide) (fun q148 hf hs => ?_)
                                                    refine g_aload_n (i := 2) (lw_dec (by decide +kernel)) rfl ?_
                                                    refine g_aload_ns (i := 0) (lw_dec (by decide +kernel)) rfl ?_
                                                    refine g_iload_n (i := 3) (lw_dec (by decide +kernel)) rfl ?_
                                                    refine g_iconst (z := 1) (v := 1) (lw_dec (by decide +kernel)) rfl ?_
                                                    refine g_iadd (lw_dec (by decide +kernel)) ?_
                                                    refine x_sld hf rfl (lw_dec (by decide +kernel)) (fun x149 hf => ?_)
                                                    refine x_callVI (as := [.int x149]) Vi_Mod_needs Vs_Mod_needs (hs.k k_136) rfl hf (fun q hq => t_Mod_needs hs  hq) Y_Mod_needs L_Lw_110 (lw_dec (by decide +kernel)) rfl rfl (Nat.le_of_ble_eq_true rfl) (by decide) (by decide) (by decide) (fun q150 hf hs => ?_)
                                                    refine x_icmp_eq (off := 515) (tgt := 1414) hf (lw_dec (by decide +kernel)) (by decide) (fun c151 hf => ?_) (fun c151 hf => ?_)
                                                    · refine g_iinc (i := 3) (z := 6) (v := (v3 + (6 : Int32))) (lw_dec (by decide +kernel)) rfl rfl rfl (show (3 : Nat) < 4 by decide) (ls1 := [(0, .retAddr 100), (1, .ref 0), (2, .ref 136), (3, .int (v3 + (6 : Int32)))]) rfl ?_
                                                      refine g_goto (off := (-1399)) (tgt := 18) (lw_dec (by decide +kernel)) (by decide) ?_
                                                      exact am_G.forget (am_subp [0, 1, 2, 3] rfl) (ih _ _ _ hs hf)
                                                    · refine g_iconst (z := 0) (v := 0) (lw_dec (by decide +kernel)) rfl ?_
                                                      exact x_zret rfl hf hs (lw_dec (by decide +kernel)) rfl (by decide) (by decide)
                                                  · rw [if_neg e22] at hf
                                                    by_cases e23 : (x2 &&& (63 : Int32)) = (23 : Int32)
                                                    · rw [if_pos e23] at hf
                                                      have ex : Int32.toInt (x2 &&& (63 : Int32)) = 23 := by rw [e23]; rfl
                                                      refine x_tabIn (dflt := 1381) (lo := 0) (hi := 38) (offs := #[171, 234, 257, 280, 303, 336, 369, 402, 435, 458, 481, 504, 537, 560, 593, 626, 669, 713, 746, 779, 812, 825, 848, 871, 884, 907, 920, 933, 946, 989, 1022, 1055, 1109, 1152, 1195, 1269, 1312, 1335, 1358]) (len := 171) (off := 871) (tgt := 904) (lw_dec (by decide +kernel)) (by rw [ex]; decide) (by rw [ex]; decide) (by rw [ex]; rfl) (by decide) ?_
                                                      refine g_aload_n (i := 1) (lw_dec (by decide +kernel)) rfl ?_
                                                      refine x_callVIp (as := []) Vi_Top_moves Vs_Top_moves (hs.k k_0) rfl hf (fun q hq => t_Top_moves hs  hq) Y_Top_moves L_Lw_111 (lw_dec (by decide +kernel)) rfl rfl (Nat.le_of_ble_eq_true rfl) (by decide) (by decide) (by decide) (fun q152 hf => ?_)
                                                      refine g_aload_n (i := 2) (lw_dec (by decide +kernel)) rfl ?_
                                                      refine x_callVI (as := []) Vi_Mod_moves Vs_Mod_moves (hs.k k_136) rfl hf (fun q hq => t_Mod_moves hs  hq) Y_Mod_moves L_Lw_114 (lw_dec (by decide +kernel)) rfl rfl (Nat.le_of_ble_eq_true rfl) (by decide) (by decide) (by decide) (fun q153 hf hs => ?_)
                                                      refine x_icmp_eq (off := 502) (tgt := 1414) hf (lw_dec (by decide +kernel)) (by decide) (fun c154 hf => ?_) (fun c154 hf => ?_)
                                                      · refine g_iinc (i := 3) (z := 6) (v := (v3 + (6 : Int32))) (lw_dec (by decide +kernel)) rfl rfl rfl (show (3 : Nat) < 4 by decide) (ls1 := [(0, .retAddr 100), (1, .ref 0), (2, .ref 136), (3, .int (v3 + (6 : Int32)))]) rfl ?_
                                                        refine g_goto (off := (-1399)) (tgt := 18) (lw_dec (by decide +kernel)) (by decide) ?_
                                                        exact am_G.forget (am_subp [0, 1, 2, 3] rfl) (ih _ _ _ hs hf)
                                                      · refine g_iconst (z := 0) (v := 0) (lw_dec (by decide +kernel)) rfl ?_
                                                        exact x_zret rfl hf hs (lw_dec (by decide +kernel)) rfl (by decide) (by decide)
                                                    · rw [if_neg e23] at hf
                                                      by_cases e24 : (x2 &&& (63 : Int32)) = (24 : Int32)
                                                      · rw [if_pos e24] at hf
                                                        have ex : Int32.toInt (x2 &&& (63 : Int32)) = 24 := by rw [e24]; rfl
                                                        refine x_tabIn (dflt := 1381) (lo := 0) (hi := 38) (offs := #[171, 234, 257, 280, 303, 336, 369, 402, 435, 458, 481, 504, 537, 560, 593, 626, 669, 713, 746, 779, 812, 825, 848, 871, 884, 907, 920, 933, 946, 989, 1022, 1055, 1109, 1152, 1195, 1269, 1312, 1335, 1358]) (len := 171) (off := 884) (tgt := 917) (lw_dec (by decide +kernel)) (by rw [ex]; decide) (by rw [ex]; decide) (by rw [ex]; rfl) (by decide) ?_
                                                        refine g_aload_n (i := 1) (lw_dec (by decide +kernel)) rfl ?_
                                                        refine g_aload_ns (i := 0) (lw_dec (by decide +kernel)) rfl ?_
                                                        refine g_iload_n (i := 3) (lw_dec (by decide +kernel)) rfl ?_
                                                        refine g_iconst (z := 1) (v := 1) (lw_dec (by decide +kernel)) rfl ?_
                                                        refine g_iadd (lw_dec (by decide +kernel)) ?_
                                                        refine x_sld hf rfl (lw_dec (by decide +kernel)) (fun x155 hf => ?_)
                                                        refine x_callVI (as := [.int x155]) Vi_Top_best Vs_Top_best (hs.k k_0) rfl hf (fun q hq => t_Top_best hs  hq) Y_Top_best L_Lw_115 (lw_dec (by decide +kernel)) rfl rfl (Nat.le_of_ble_eq_true rfl) (by decide) (by decide) (by decide) (fun q156 hf hs => ?_)
                                                        refine g_aload_n (i := 2) (lw_dec (by decide +kernel)) rfl ?_
                                                        refine g_aload_ns (i := 0) (lw_dec (by decide +kernel)) rfl ?_
                                                        refine g_iload_n (i := 3) (lw_dec (by decide +kernel)) rfl ?_
                                                        refine g_iconst (z := 1) (v := 1) (lw_dec (by decide +kernel)) rfl ?_
                                                        refine g_iadd (lw_dec (by decide +kernel)) ?_
                                                        refine x_sld hf rfl (lw_dec (by decide +kernel)) (fun x157 hf => ?_)
                                                        refine x_callVI (as := [.int x157]) Vi_Mod_best Vs_Mod_best (hs.k k_136) rfl hf (fun q hq => t_Mod_best hs  hq) Y_Mod_best L_Lw_118 (lw_dec (by decide +kernel)) rfl rfl (Nat.le_of_ble_eq_true rfl) (by decide) (by decide) (by decide) (fun q158 hf hs => ?_)
                                                        refine x_icmp_eq (off := 479) (tgt := 1414) hf (lw_dec (by decide +kernel)) (by decide) (fun c159 hf => ?_) (fun c159 hf => ?_)
                                                        · refine g_iinc (i := 3) (z := 6) (v := (v3 + (6 : Int32))) (lw_dec (by decide +kernel)) rfl rfl rfl (show (3 : Nat) < 4 by decide) (ls1 := [(0, .retAddr 100), (1, .ref 0), (2, .ref 136), (3, .int (v3 + (6 : Int32)))]) rfl ?_
                                                          refine g_goto (off := (-1399)) (tgt := 18) (lw_dec (by decide +kernel)) (by decide) ?_
                                                          exact am_G.forget (am_subp [0, 1, 2, 3] rfl) (ih _ _ _ hs hf)
                                                        · refine g_iconst (z := 0) (v := 0) (lw_dec (by decide +kernel)) rfl ?_
                                                          exact x_zret rfl hf hs (lw_dec (by decide +kernel)) rfl (by decide) (by decide)
                                                      · rw [if_neg e24] at hf
                                                        by_cases e25 : (x2 &&& (63 : Int32)) = (25 : Int32)
                                                        · rw [if_pos e25] at hf
                                                          have ex : Int32.toInt (x2 &&& (63 : Int32)) = 25 := by rw [e25]; rfl
                                                          refine x_tabIn (dflt := 1381) (lo := 0) (hi := 38) (offs := #[171, 234, 257, 280, 303, 336, 369, 402, 435, 458, 481, 504, 537, 560, 593, 626, 669, 713, 746, 779, 812, 825, 848, 871, 884, 907, 920, 933, 946, 989, 1022, 1055, 1109, 1152, 1195, 1269, 1312, 1335, 1358]) (len := 171) (off := 907) (tgt := 940) (lw_dec (by decide +kernel)) (by rw [ex]; decide) (by rw [ex]; decide) (by rw [ex]; rfl) (by decide) ?_
                                                          refine g_aload_n (i := 1) (lw_dec (by decide +kernel)) rfl ?_
                                                          refine x_callVI (as := []) Vi_Top_change Vs_Top_change (hs.k k_0) rfl hf (fun q hq => t_Top_change hs  hq) Y_Top_change L_Lw_119 (lw_dec (by decide +kernel)) rfl rfl (Nat.le_of_ble_eq_true rfl) (by decide) (by decide) (by decide) (fun q160 hf hs => ?_)
                                                          refine g_aload_n (i := 2) (lw_dec (by decide +kernel)) rfl ?_
                                                          refine x_callVI (as := []) Vi_Mod_change Vs_Mod_change (hs.k k_136) rfl hf (fun q hq => t_Mod_change hs  hq) Y_Mod_change L_Lw_122 (lw_dec (by decide +kernel)) rfl rfl (Nat.le_of_ble_eq_true rfl) (by decide) (by decide) (by decide) (fun q161 hf hs => ?_)
                                                          refine x_icmp_eq (off := 466) (tgt := 1414) hf (lw_dec (by decide +kernel)) (by decide) (fun c162 hf => ?_) (fun c162 hf => ?_)
                                                          · refine g_iinc (i := 3) (z := 6) (v := (v3 + (6 : Int32))) (lw_dec (by decide +kernel)) rfl rfl rfl (show (3 : Nat) < 4 by decide) (ls1 := [(0, .retAddr 100), (1, .ref 0), (2, .ref 136), (3, .int (v3 + (6 : Int32)))]) rfl ?_
                                                            refine g_goto (off := (-1399)) (tgt := 18) (lw_dec (by decide +kernel)) (by decide) ?_
                                                            exact am_G.forget (am_subp [0, 1, 2, 3] rfl) (ih _ _ _ hs hf)
                                                          · refine g_iconst (z := 0) (v := 0) (lw_dec (by decide +kernel)) rfl ?_
                                                            exact x_zret rfl hf hs (lw_dec (by decide +kernel)) rfl (by decide) (by decide)
                                                        · rw [if_neg e25] at hf
                                                          by_cases e26 : (x2 &&& (63 : Int32)) = (26 : Int32)
                                                          · rw [if_pos e26] at hf
                                                            have ex : Int32.toInt (x2 &&& (63 : Int32)) = 26 := by rw [e26]; rfl
                                                            refine x_tabIn (dflt := 1381) (lo := 0) (hi := 38) (offs := #[171, 234, 257, 280, 303, 336, 369, 402, 435, 458, 481, 504, 537, 560, 593, 626, 669, 713, 746, 779, 812, 825, 848, 871, 884, 907, 920, 933, 946, 989, 1022, 1055, 1109, 1152, 1195, 1269, 1312, 1335, 1358]) (len := 171) (off := 920) (tgt := 953) (lw_dec (by decide +kernel)) (by rw [ex]; decide) (by rw [ex]; decide) (by rw [ex]; rfl) (by decide) ?_
                                                            refine g_aload_n (i := 1) (lw_dec (by decide +kernel)) rfl ?_
                                                            refine x_callVI (as := []) Vi_Top_weeks Vs_Top_weeks (hs.k k_0) rfl hf (fun q hq => t_Top_weeks hs  hq) Y_Top_weeks L_Lw_123 (lw_dec (by decide +kernel)) rfl rfl (Nat.le_of_ble_eq_true rfl) (by decide) (by decide) (by decide) (fun q163 hf hs => ?_)
                                                            refine g_aload_n (i := 2) (lw_dec (by decide +kernel)) rfl ?_
                                                            refine x_callVI (as := []) Vi_Mod_weeks Vs_Mod_weeks (hs.k k_136) rfl hf (fun q hq => t_Mod_weeks hs  hq) Y_Mod_weeks L_Lw_126 (lw_dec (by decide +kernel)) rfl rfl (Nat.le_of_ble_eq_true rfl) (by decide) (by decide) (by decide) (fun q164 hf hs => ?_)
                                                            refine x_icmp_eq (off := 453) (tgt := 1414) hf (lw_dec (by decide +kernel)) (by decide) (fun c165 hf => ?_) (fun c165 hf => ?_)
                                                            · refine g_iinc (i := 3) (z := 6) (v := (v3 + (6 : Int32))) (lw_dec (by decide +kernel)) rfl rfl rfl (show (3 : Nat) < 4 by decide) (ls1 := [(0, .retAddr 100), (1, .ref 0), (2, .ref 136), (3, .int (v3 + (6 : Int32)))]) rfl ?_
                                                              refine g_goto (off := (-1399)) (tgt := 18) (lw_dec (by decide +kernel)) (by decide) ?_
                                                              exact am_G.forget (am_subp [0, 1, 2, 3] rfl) (ih _ _ _ hs hf)
                                                            · refine g_iconst (z := 0) (v := 0) (lw_dec (by decide +kernel)) rfl ?_
                                                              exact x_zret rfl hf hs (lw_dec (by decide +kernel)) rfl (by decide) (by decide)
                                                          · rw [if_neg e26] at hf
                                                            by_cases e27 : (x2 &&& (63 : Int32)) = (27 : Int32)
                                                            · rw [if_pos e27] at hf
                                                              have ex : Int32.toInt (x2 &&& (63 : Int32)) = 27 := by rw [e27]; rfl
                                                              refine x_tabIn (dflt := 1381) (lo := 0) (hi := 38) (offs := #[171, 234, 257, 280, 303, 336, 369, 402, 435, 458, 481, 504, 537, 560, 593, 626, 669, 713, 746, 779, 812, 825, 848, 871, 884, 907, 920, 933, 946, 989, 1022, 1055, 1109, 1152, 1195, 1269, 1312, 1335, 1358]) (len := 171) (off := 933) (tgt := 966) (lw_dec (by decide +kernel)) (by rw [ex]; decide) (by rw [ex]; decide) (by rw [ex]; rfl) (by decide) ?_
                                                              refine g_aload_n (i := 1) (lw_dec (by decide +kernel)) rfl ?_
                                                              refine x_callVI (as := []) Vi_Top_shift Vs_Top_shift (hs.k k_0) rfl hf (fun q hq => t_Top_shift hs  hq) Y_Top_shift L_Lw_127 (lw_dec (by decide +kernel)) rfl rfl (Nat.le_of_ble_eq_true rfl) (by decide) (by decide) (by decide) (fun q166 hf hs => ?_)
                                                              refine g_aload_n (i := 2) (lw_dec (by decide +kernel)) rfl ?_
                                                              refine x_callVI (as := []) Vi_Mod_shift Vs_Mod_shift (hs.k k_136) rfl hf (fun q hq => t_Mod_shift hs  hq) Y_Mod_shift L_Lw_130 (lw_dec (by decide +kernel)) rfl rfl (Nat.le_of_ble_eq_true rfl) (by decide) (by decide) (by decide) (fun q167 hf hs => ?_)
                                                              refine x_icmp_eq (off := 440) (tgt := 1414) hf (lw_dec (by decide +kernel)) (by decide) (fun c168 hf => ?_) (fun c168 hf => ?_)
                                                              · refine g_iinc (i := 3) (z := 6) (v := (v3 + (6 : Int32))) (lw_dec (by decide +kernel)) rfl rfl rfl (show (3 : Nat) < 4 by decide) (ls1 := [(0, .retAddr 100), (1, .ref 0), (2, .ref 136), (3, .int (v3 + (6 : Int32)))]) rfl ?_
                                                                refine g_goto (off := (-1399)) (tgt := 18) (lw_dec (by decide +kernel)) (by decide) ?_
                                                                exact am_G.forget (am_subp [0, 1, 2, 3] rfl) (ih _ _ _ hs hf)
                                                              · refine g_iconst (z := 0) (v := 0) (lw_dec (by decide +kernel)) rfl ?_
                                                                exact x_zret rfl hf hs (lw_dec (by decide +kernel)) rfl (by decide) (by decide)
                                                            · rw [if_neg e27] at hf
                                                              by_cases e28 : (x2 &&& (63 : Int32)) = (28 : Int32)
                                                              · rw [if_pos e28] at hf
                                                                have ex : Int32.toInt (x2 &&& (63 : Int32)) = 28 := by rw [e28]; rfl
                                                                refine x_tabIn (dflt := 1381) (lo := 0) (hi := 38) (offs := #[171, 234, 257, 280, 303, 336, 369, 402, 435, 458, 481, 504, 537, 560, 593, 626, 669, 713, 746, 779, 812, 825, 848, 871, 884, 907, 920, 933, 946, 989, 1022, 1055, 1109, 1152, 1195, 1269, 1312, 1335, 1358]) (len := 171) (off := 946) (tgt := 979) (lw_dec (by decide +kernel)) (by rw [ex]; decide) (by rw [ex]; decide) (by rw [ex]; rfl) (by decide) ?_
                                                                refine g_aload_n (i := 1) (lw_dec (by decide +kernel)) rfl ?_
                                                                refine g_aload_ns (i := 0) (lw_dec (by decide +kernel)) rfl ?_
                                                                refine g_iload_n (i := 3) (lw_dec (by decide +kernel)) rfl ?_
                                                                refine g_iconst (z := 1) (v := 1) (lw_dec (by decide +kernel)) rfl ?_
                                                                refine g_iadd (lw_dec (by decide +kernel)) ?_
                                                                refine x_sld hf rfl (lw_dec (by decide +kernel)) (fun x169 hf => ?_)
                                                                refine g_aload_ns (i := 0) (lw_dec (by decide +kernel)) rfl ?_
                                                                refine g_iload_n (i := 3) (lw_dec (by decide +kernel)) rfl ?_
                                                                refine g_iconst (z := 2) (v := 2) (lw_dec (by decide +kernel)) rfl ?_
                                                                refine g_iadd (lw_dec (by decide +kernel)) ?_
                                                                refine x_sld hf rfl (lw_dec (by decide +kernel)) (fun x170 hf => ?_)
                                                                refine g_aload_ns (i := 0) (lw_dec (by decide +kernel)) rfl ?_
                                                                refine g_iload_n (i := 3) (lw_dec (by decide +kernel)) rfl ?_
                                                                refine g_iconst (z := 3) (v := 3) (lw_dec (by decide +kernel)) rfl ?_
                                                                refine g_iadd (lw_dec (by decide +kernel)) ?_
                                                                refine x_sld hf rfl (lw_dec (by decide +kernel)) (fun x171 hf => ?_)
                                                                refine x_callVI (as := [.int x169, .int x170, .int x171]) Vi_Top_fits Vs_Top_fits (hs.k k_0) rfl hf (fun q hq => t_Top_fits hs  hq) Y_Top_fits L_Lw_131 (lw_dec (by decide +kernel)) rfl rfl (Nat.le_of_ble_eq_true rfl) (by decide) (by decide) (by decide) (fun q172 hf hs => ?_)
                                                                refine g_aload_n (i := 2) (lw_dec (by decide +kernel)) rfl ?_
                                                                refine g_aload_ns (i := 0) (lw_dec (by decide +kernel)) rfl ?_
                                                                refine g_iload_n (i := 3) (lw_dec (by decide +kernel)) rfl ?_
                                                                refine g_iconst (z := 1) (v := 1) (lw_dec (by decide +kernel)) rfl ?_
                                                                refine g_iadd (lw_dec (by decide +kernel)) ?_
                                                                refine x_sld hf rfl (lw_dec (by decide +kernel)) (fun x173 hf => ?_)
                                                                refine g_aload_ns (i := 0) (lw_dec (by decide +kernel)) rfl ?_
                                                                refine g_iload_n (i := 3) (lw_dec (by decide +kernel)) rfl ?_
                                                                refine g_iconst (z := 2) (v := 2) (lw_dec (by decide +kernel)) rfl ?_
                                                                refine g_iadd (lw_dec (by decide +kernel)) ?_
                                                                refine x_sld hf rfl (lw_dec (by decide +kernel)) (fun x174 hf => ?_)
                                                                refine g_aload_ns (i := 0) (lw_dec (by decide +kernel)) rfl ?_
                                                                refine g_iload_n (i := 3) (lw_dec (by decide +kernel)) rfl ?_
                                                                refine g_iconst (z := 3) (v := 3) (lw_dec (by decide +kernel)) rfl ?_
                                                                refine g_iadd (lw_dec (by decide +kernel)) ?_
                                                                refine x_sld hf rfl (lw_dec (by decide +kernel)) (fun x175 hf => ?_)
                                                                refine x_callVI (as := [.int x173, .int x174, .int x175]) Vi_Mod_fits Vs_Mod_fits (hs.k k_136) rfl hf (fun q hq => t_Mod_fits hs  hq) Y_Mod_fits L_Lw_134 (lw_dec (by decide +kernel)) rfl rfl (Nat.le_of_ble_eq_true rfl) (by decide) (by decide) (by decide) (fun q176 hf hs => ?_)
                                                                refine x_icmp_eq (off := 397) (tgt := 1414) hf (lw_dec (by decide +kernel)) (by decide) (fun c177 hf => ?_) (fun c177 hf => ?_)
                                                                · refine g_iinc (i := 3) (z := 6) (v := (v3 + (6 : Int32))) (lw_dec (by decide +kernel)) rfl rfl rfl (show (3 : Nat) < 4 by decide) (ls1 := [(0, .retAddr 100), (1, .ref 0), (2, .ref 136), (3, .int (v3 + (6 : Int32)))]) rfl ?_
                                                                  refine g_goto (off := (-1399)) (tgt := 18) (lw_dec (by decide +kernel)) (by decide) ?_
                                                                  exact am_G.forget (am_subp [0, 1, 2, 3] rfl) (ih _ _ _ hs hf)
                                                                · refine g_iconst (z := 0) (v := 0) (lw_dec (by decide +kernel)) rfl ?_
                                                                  exact x_zret rfl hf hs (lw_dec (by decide +kernel)) rfl (by decide) (by decide)
                                                              · rw [if_neg e28] at hf
                                                                by_cases e29 : (x2 &&& (63 : Int32)) = (29 : Int32)
                                                                · rw [if_pos e29] at hf
                                                                  have ex : Int32.toInt (x2 &&& (63 : Int32)) = 29 := by rw [e29]; rfl
                                                                  refine x_tabIn (dflt := 1381) (lo := 0) (hi := 38) (offs := #[171, 234, 257, 280, 303, 336, 369, 402, 435, 458, 481, 504, 537, 560, 593, 626, 669, 713, 746, 779, 812, 825, 848, 871, 884, 907, 920, 933, 946, 989, 1022, 1055, 1109, 1152, 1195, 1269, 1312, 1335, 1358]) (len := 171) (off := 989) (tgt := 1022) (lw_dec (by decide +kernel)) (by rw [ex]; decide) (by rw [ex]; decide) (by rw [ex]; rfl) (by decide) ?_
                                                                  refine g_aload_n (i := 1) (lw_dec (by decide +kernel)) rfl ?_
                                                                  refine g_aload_ns (i := 0) (lw_dec (by decide +kernel)) rfl ?_
                                                                  refine g_iload_n (i := 3) (lw_dec (by decide +kernel)) rfl ?_
                                                                  refine g_iconst (z := 1) (v := 1) (lw_dec (by decide +kernel)) rfl ?_
                                                                  refine g_iadd (lw_dec (by decide +kernel)) ?_
                                                                  refine x_sld hf rfl (lw_dec (by decide +kernel)) (fun x178 hf => ?_)
                                                                  refine g_aload_ns (i := 0) (lw_dec (by decide +kernel)) rfl ?_
                                                                  refine g_iload_n (i := 3) (lw_dec (by decide +kernel)) rfl ?_
                                                                  refine g_iconst (z := 2) (v := 2) (lw_dec (by decide +kernel)) rfl ?_
                                                                  refine g_iadd (lw_dec (by decide +kernel)) ?_
                                                                  refine x_sld hf rfl (lw_dec (by decide +kernel)) (fun x179 hf => ?_)
                                                                  refine x_callVI (as := [.int x178, .int x179]) Vi_Top_surest Vs_Top_surest (hs.k k_0) rfl hf (fun q hq => t_Top_surest hs  hq) Y_Top_surest L_Lw_135 (lw_dec (by decide +kernel)) rfl rfl (Nat.le_of_ble_eq_true rfl) (by decide) (by decide) (by decide) (fun q180 hf hs => ?_)
                                                                  refine g_aload_n (i := 2) (lw_dec (by decide +kernel)) rfl ?_
                                                                  refine g_aload_ns (i := 0) (lw_dec (by decide +kernel)) rfl ?_
                                                                  refine g_iload_n (i := 3) (lw_dec (by decide +kernel)) rfl ?_
                                                                  refine g_iconst (z := 1) (v := 1) (lw_dec (by decide +kernel)) rfl ?_
                                                                  refine g_iadd (lw_dec (by decide +kernel)) ?_
                                                                  refine x_sld hf rfl (lw_dec (by decide +kernel)) (fun x181 hf => ?_)
                                                                  refine g_aload_ns (i := 0) (lw_dec (by decide +kernel)) rfl ?_
                                                                  refine g_iload_n (i := 3) (lw_dec (by decide +kernel)) rfl ?_
                                                                  refine g_iconst (z := 2) (v := 2) (lw_dec (by decide +kernel)) rfl ?_
                                                                  refine g_iadd (lw_dec (by decide +kernel)) ?_
                                                                  refine x_sld hf rfl (lw_dec (by decide +kernel)) (fun x182 hf => ?_)
                                                                  refine x_callVI (as := [.int x181, .int x182]) Vi_Mod_surest Vs_Mod_surest (hs.k k_136) rfl hf (fun q hq => t_Mod_surest hs  hq) Y_Mod_surest L_Lw_138 (lw_dec (by decide +kernel)) rfl rfl (Nat.le_of_ble_eq_true rfl) (by decide) (by decide) (by decide) (fun q183 hf hs => ?_)
                                                                  refine x_icmp_eq (off := 364) (tgt := 1414) hf (lw_dec (by decide +kernel)) (by decide) (fun c184 hf => ?_) (fun c184 hf => ?_)
                                                                  · refine g_iinc (i := 3) (z := 6) (v := (v3 + (6 : Int32))) (lw_dec (by decide +kernel)) rfl rfl rfl (show (3 : Nat) < 4 by decide) (ls1 := [(0, .retAddr 100), (1, .ref 0), (2, .ref 136), (3, .int (v3 + (6 : Int32)))]) rfl ?_
                                                                    refine g_goto (off := (-1399)) (tgt := 18) (lw_dec (by decide +kernel)) (by decide) ?_
                                                                    exact am_G.forget (am_subp [0, 1, 2, 3] rfl) (ih _ _ _ hs hf)
                                                                  · refine g_iconst (z := 0) (v := 0) (lw_dec (by decide +kernel)) rfl ?_
                                                                    exact x_zret rfl hf hs (lw_dec (by decide +kernel)) rfl (by decide) (by decide)
                                                                · rw [if_neg e29] at hf
                                                                  by_cases e30 : (x2 &&& (63 : Int32)) = (30 : Int32)
                                                                  · rw [if_pos e30] at hf
                                                                    have ex : Int32.toInt (x2 &&& (63 : Int32)) = 30 := by rw [e30]; rfl
                                                                    refine x_tabIn (dflt := 1381) (lo := 0) (hi := 38) (offs := #[171, 234, 257, 280, 303, 336, 369, 402, 435, 458, 481, 504, 537, 560, 593, 626, 669, 713, 746, 779, 812, 825, 848, 871, 884, 907, 920, 933, 946, 989, 1022, 1055, 1109, 1152, 1195, 1269, 1312, 1335, 1358]) (len := 171) (off := 1022) (tgt := 1055) (lw_dec (by decide +kernel)) (by rw [ex]; decide) (by rw [ex]; decide) (by rw [ex]; rfl) (by decide) ?_
                                                                    refine g_aload_n (i := 1) (lw_dec (by decide +kernel)) rfl ?_
                                                                    refine g_aload_ns (i := 0) (lw_dec (by decide +kernel)) rfl ?_
                                                                    refine g_iload_n (i := 3) (lw_dec (by decide +kernel)) rfl ?_
                                                                    refine g_iconst (z := 1) (v := 1) (lw_dec (by decide +kernel)) rfl ?_
                                                                    refine g_iadd (lw_dec (by decide +kernel)) ?_
                                                                    refine x_sld hf rfl (lw_dec (by decide +kernel)) (fun x185 hf => ?_)
                                                                    refine g_aload_ns (i := 0) (lw_dec (by decide +kernel)) rfl ?_
                                                                    refine g_iload_n (i := 3) (lw_dec (by decide +kernel)) rfl ?_
                                                                    refine g_iconst (z := 2) (v := 2) (lw_dec (by decide +kernel)) rfl ?_
                                                                    refine g_iadd (lw_dec (by decide +kernel)) ?_
                                                                    refine x_sld hf rfl (lw_dec (by decide +kernel)) (fun x186 hf => ?_)
                                                                    refine x_callVI (as := [.int x185, .int x186]) Vi_Top_odd Vs_Top_odd (hs.k k_0) rfl hf (fun q hq => t_Top_odd hs  hq) Y_Top_odd L_Lw_139 (lw_dec (by decide +kernel)) rfl rfl (Nat.le_of_ble_eq_true rfl) (by decide) (by decide) (by decide) (fun q187 hf hs => ?_)
                                                                    refine g_aload_n (i := 2) (lw_dec (by decide +kernel)) rfl ?_
                                                                    refine g_aload_ns (i := 0) (lw_dec (by decide +kernel)) rfl ?_
                                                                    refine g_iload_n (i := 3) (lw_dec (by decide +kernel)) rfl ?_
                                                                    refine g_iconst (z := 1) (v := 1) (lw_dec (by decide +kernel)) rfl ?_
                                                                    refine g_iadd (lw_dec (by decide +kernel)) ?_
                                                                    refine x_sld hf rfl (lw_dec (by decide +kernel)) (fun x188 hf => ?_)
                                                                    refine g_aload_ns (i := 0) (lw_dec (by decide +kernel)) rfl ?_
                                                                    refine g_iload_n (i := 3) (lw_dec (by decide +kernel)) rfl ?_
                                                                    refine g_iconst (z := 2) (v := 2) (lw_dec (by decide +kernel)) rfl ?_
                                                                    refine g_iadd (lw_dec (by decide +kernel)) ?_
                                                                    refine x_sld hf rfl (lw_dec (by decide +kernel)) (fun x189 hf => ?_)
                                                                    refine x_callVI (as := [.int x188, .int x189]) Vi_Mod_odd Vs_Mod_odd (hs.k k_136) rfl hf (fun q hq => t_Mod_odd hs  hq) Y_Mod_odd L_Lw_142 (lw_dec (by decide +kernel)) rfl rfl (Nat.le_of_ble_eq_true rfl) (by decide) (by decide) (by decide) (fun q190 hf hs => ?_)
                                                                    refine x_icmp_eq (off := 331) (tgt := 1414) hf (lw_dec (by decide +kernel)) (by decide) (fun c191 hf => ?_) (fun c191 hf => ?_)
                                                                    · refine g_iinc (i := 3) (z := 6) (v := (v3 + (6 : Int32))) (lw_dec (by decide +kernel)) rfl rfl rfl (show (3 : Nat) < 4 by decide) (ls1 := [(0, .retAddr 100), (1, .ref 0), (2, .ref 136), (3, .int (v3 + (6 : Int32)))]) rfl ?_
                                                                      refine g_goto (off := (-1399)) (tgt := 18) (lw_dec (by decide +kernel)) (by decide) ?_
                                                                      exact am_G.forget (am_subp [0, 1, 2, 3] rfl) (ih _ _ _ hs hf)
                                                                    · refine g_iconst (z := 0) (v := 0) (lw_dec (by decide +kernel)) rfl ?_
                                                                      exact x_zret rfl hf hs (lw_dec (by decide +kernel)) rfl (by decide) (by decide)
                                                                  · rw [if_neg e30] at hf
                                                                    by_cases e31 : (x2 &&& (63 : Int32)) = (31 : Int32)
                                                                    · rw [if_pos e31] at hf
                                                                      have ex : Int32.toInt (x2 &&& (63 : Int32)) = 31 := by rw [e31]; rfl
                                                                      refine x_tabIn (dflt := 1381) (lo := 0) (hi := 38) (offs := #[171, 234, 257, 280, 303, 336, 369, 402, 435, 458, 481, 504, 537, 560, 593, 626, 669, 713, 746, 779, 812, 825, 848, 871, 884, 907, 920, 933, 946, 989, 1022, 1055, 1109, 1152, 1195, 1269, 1312, 1335, 1358]) (len := 171) (off := 1055) (tgt := 1088) (lw_dec (by decide +kernel)) (by rw [ex]; decide) (by rw [ex]; decide) (by rw [ex]; rfl) (by decide) ?_
                                                                      refine g_aload_n (i := 1) (lw_dec (by decide +kernel)) rfl ?_
                                                                      refine g_aload_ns (i := 0) (lw_dec (by decide +kernel)) rfl ?_
                                                                      refine g_iload_n (i := 3) (lw_dec (by decide +kernel)) rfl ?_
                                                                      refine g_iconst (z := 1) (v := 1) (lw_dec (by decide +kernel)) rfl ?_
                                                                      refine g_iadd (lw_dec (by decide +kernel)) ?_
                                                                      refine x_sld hf rfl (lw_dec (by decide +kernel)) (fun x192 hf => ?_)
                                                                      refine g_aload_ns (i := 0) (lw_dec (by decide +kernel)) rfl ?_
                                                                      refine g_iload_n (i := 3) (lw_dec (by decide +kernel)) rfl ?_
                                                                      refine g_iconst (z := 2) (v := 2) (lw_dec (by decide +kernel)) rfl ?_
                                                                      refine g_iadd (lw_dec (by decide +kernel)) ?_
                                                                      refine x_sld hf rfl (lw_dec (by decide +kernel)) (fun x193 hf => ?_)
                                                                      refine g_aload_ns (i := 0) (lw_dec (by decide +kernel)) rfl ?_
                                                                      refine g_iload_n (i := 3) (lw_dec (by decide +kernel)) rfl ?_
                                                                      refine g_iconst (z := 3) (v := 3) (lw_dec (by decide +kernel)) rfl ?_
                                                                      refine g_iadd (lw_dec (by decide +kernel)) ?_
                                                                      refine x_sld hf rfl (lw_dec (by decide +kernel)) (fun x194 hf => ?_)
                                                                      refine g_aload_ns (i := 0) (lw_dec (by decide +kernel)) rfl ?_
                                                                      refine g_iload_n (i := 3) (lw_dec (by decide +kernel)) rfl ?_
                                                                      refine g_iconst (z := 4) (v := 4) (lw_dec (by decide +kernel)) rfl ?_
                                                                      refine g_iadd (lw_dec (by decide +kernel)) ?_
                                                                      refine x_sld hf rfl (lw_dec (by decide +kernel)) (fun x195 hf => ?_)
                                                                      refine x_callVJ (as := [.int x192, .int x193, .int x194, .int x195]) Vi_Top_chance Vs_Top_chance (hs.k k_0) rfl hf (fun q hq => t_Top_chance hs  hq) Y_Top_chance L_Lw_143 (lw_dec (by decide +kernel)) rfl rfl (Nat.le_of_ble_eq_true rfl) (by decide) (by decide) (by decide) (fun q196 hf hs => ?_)
                                                                      refine g_aload_n (i := 2) (lw_dec (by decide +kernel)) rfl ?_
                                                                      refine g_aload_ns (i := 0) (lw_dec (by decide +kernel)) rfl ?_
                                                                      refine g_iload_n (i := 3) (lw_dec (by decide +kernel)) rfl ?_
                                                                      refine g_iconst (z := 1) (v := 1) (lw_dec (by decide +kernel)) rfl ?_
                                                                      refine g_iadd (lw_dec (by decide +kernel)) ?_
                                                                      refine x_sld hf rfl (lw_dec (by decide +kernel)) (fun x197 hf => ?_)
                                                                      refine g_aload_ns (i := 0) (lw_dec (by decide +kernel)) rfl ?_
                                                                      refine g_iload_n (i := 3) (lw_dec (by decide +kernel)) rfl ?_
                                                                      refine g_iconst (z := 2) (v := 2) (lw_dec (by decide +kernel)) rfl ?_
                                                                      refine g_iadd (lw_dec (by decide +kernel)) ?_
                                                                      refine x_sld hf rfl (lw_dec (by decide +kernel)) (fun x198 hf => ?_)
                                                                      refine g_aload_ns (i := 0) (lw_dec (by decide +kernel)) rfl ?_
                                                                      refine g_iload_n (i := 3) (lw_dec (by decide +kernel)) rfl ?_
                                                                      refine g_iconst (z := 3) (v := 3) (lw_dec (by decide +kernel)) rfl ?_
                                                                      refine g_iadd (lw_dec (by decide +kernel)) ?_
                                                                      refine x_sld hf rfl (lw_dec (by decide +kernel)) (fun x199 hf => ?_)
                                                                      refine g_aload_ns (i := 0) (lw_dec (by decide +kernel)) rfl ?_
                                                                      refine g_iload_n (i := 3) (lw_dec (by decide +kernel)) rfl ?_
                                                                      refine g_iconst (z := 4) (v := 4) (lw_dec (by decide +kernel)) rfl ?_
                                                                      refine g_iadd (lw_dec (by decide +kernel)) ?_
                                                                      refine x_sld hf rfl (lw_dec (by decide +kernel)) (fun x200 hf => ?_)
                                                                      refine x_callVJ (as := [.int x197, .int x198, .int x199, .int x200]) Vi_Mod_chance Vs_Mod_chance (hs.k k_136) rfl hf (fun q hq => t_Mod_chance hs  hq) Y_Mod_chance L_Lw_147 (lw_dec (by decide +kernel)) rfl rfl (Nat.le_of_ble_eq_true rfl) (by decide) (by decide) (by decide) (fun q201 hf hs => ?_)
                                                                      refine g_lcmp (lw_dec (by decide +kernel)) ?_
                                                                      refine x_if_eq (off := 277) (tgt := 1414) hf (lw_dec (by decide +kernel)) (by decide) (fun c202 hf => ?_) (fun c202 hf => ?_)
                                                                      · refine g_iinc (i := 3) (z := 6) (v := (v3 + (6 : Int32))) (lw_dec (by decide +kernel)) rfl rfl rfl (show (3 : Nat) < 4 by decide) (ls1 := [(0, .retAddr 100), (1, .ref 0), (2, .ref 136), (3, .int (v3 + (6 : Int32)))]) rfl ?_
                                                                        refine g_goto (off := (-1399)) (tgt := 18) (lw_dec (by decide +kernel)) (by decide) ?_
                                                                        exact am_G.forget (am_subp [0, 1, 2, 3] rfl) (ih _ _ _ hs hf)
                                                                      · refine g_iconst (z := 0) (v := 0) (lw_dec (by decide +kernel)) rfl ?_
                                                                        exact x_zret rfl hf hs (lw_dec (by decide +kernel)) rfl (by decide) (by decide)
                                                                    · rw [if_neg e31] at hf
                                                                      by_cases e32 : (x2 &&& (63 : Int32)) = (32 : Int32)
                                                                      · rw [if_pos e32] at hf
                                                                        have ex : Int32.toInt (x2 &&& (63 : Int32)) = 32 := by rw [e32]; rfl
                                                                        refine x_tabIn (dflt := 1381) (lo := 0) (hi := 38) (offs := #[171, 234, 257, 280, 303, 336, 369, 402, 435, 458, 481, 504, 537, 560, 593, 626, 669, 713, 746, 779, 812, 825, 848, 871, 884, 907, 920, 933, 946, 989, 1022, 1055, 1109, 1152, 1195, 1269, 1312, 1335, 1358]) (len := 171) (off := 1109) (tgt := 1142) (lw_dec (by decide +kernel)) (by rw [ex]; decide) (by rw [ex]; decide) (by rw [ex]; rfl) (by decide) ?_
                                                                        refine g_aload_n (i := 1) (lw_dec (by decide +kernel)) rfl ?_
                                                                        refine g_aload_ns (i := 0) (lw_dec (by decide +kernel)) rfl ?_
                                                                        refine g_iload_n (i := 3) (lw_dec (by decide +kernel)) rfl ?_
                                                                        refine g_iconst (z := 1) (v := 1) (lw_dec (by decide +kernel)) rfl ?_
                                                                        refine g_iadd (lw_dec (by decide +kernel)) ?_
                                                                        refine x_sld hf rfl (lw_dec (by decide +kernel)) (fun x203 hf => ?_)
                                                                        refine g_aload_ns (i := 0) (lw_dec (by decide +kernel)) rfl ?_
                                                                        refine g_iload_n (i := 3) (lw_dec (by decide +kernel)) rfl ?_
                                                                        refine g_iconst (z := 2) (v := 2) (lw_dec (by decide +kernel)) rfl ?_
                                                                        refine g_iadd (lw_dec (by decide +kernel)) ?_
                                                                        refine x_sld hf rfl (lw_dec (by decide +kernel)) (fun x204 hf => ?_)
                                                                        refine g_aload_ns (i := 0) (lw_dec (by decide +kernel)) rfl ?_
                                                                        refine g_iload_n (i := 3) (lw_dec (by decide +kernel)) rfl ?_
                                                                        refine g_iconst (z := 3) (v := 3) (lw_dec (by decide +kernel)) rfl ?_
                                                                        refine g_iadd (lw_dec (by decide +kernel)) ?_
                                                                        refine x_sld hf rfl (lw_dec (by decide +kernel)) (fun x205 hf => ?_)
                                                                        refine x_callVI (as := [.int x203, .int x204, .int x205]) Vi_Top_likely Vs_Top_likely (hs.k k_0) rfl hf (fun q hq => t_Top_likely hs  hq) Y_Top_likely L_Lw_148 (lw_dec (by decide +kernel)) rfl rfl (Nat.le_of_ble_eq_true rfl) (by decide) (by decide) (by decide) (fun q206 hf hs => ?_)
                                                                        refine g_aload_n (i := 2) (lw_dec (by decide +kernel)) rfl ?_
                                                                        refine g_aload_ns (i := 0) (lw_dec (by decide +kernel)) rfl ?_
                                                                        refine g_iload_n (i := 3) (lw_dec (by decide +kernel)) rfl ?_
                                                                        refine g_iconst (z := 1) (v := 1) (lw_dec (by decide +kernel)) rfl ?_
                                                                        refine g_iadd (lw_dec (by decide +kernel)) ?_
                                                                        refine x_sld hf rfl (lw_dec (by decide +kernel)) (fun x207 hf => ?_)
                                                                        refine g_aload_ns (i := 0) (lw_dec (by decide +kernel)) rfl ?_
                                                                        refine g_iload_n (i := 3) (lw_dec (by decide +kernel)) rfl ?_
                                                                        refine g_iconst (z := 2) (v := 2) (lw_dec (by decide +kernel)) rfl ?_
                                                                        refine g_iadd (lw_dec (by decide +kernel)) ?_
                                                                        refine x_sld hf rfl (lw_dec (by decide +kernel)) (fun x208 hf => ?_)
                                                                        refine g_aload_ns (i := 0) (lw_dec (by decide +kernel)) rfl ?_
                                                                        refine g_iload_n (i := 3) (lw_dec (by decide +kernel)) rfl ?_
                                                                        refine g_iconst (z := 3) (v := 3) (lw_dec (by decide +kernel)) rfl ?_
                                                                        refine g_iadd (lw_dec (by decide +kernel)) ?_
                                                                        refine x_sld hf rfl (lw_dec (by decide +kernel)) (fun x209 hf => ?_)
                                                                        refine x_callVI (as := [.int x207, .int x208, .int x209]) Vi_Mod_likely Vs_Mod_likely (hs.k k_136) rfl hf (fun q hq => t_Mod_likely hs  hq) Y_Mod_likely L_Lw_151 (lw_dec (by decide +kernel)) rfl rfl (Nat.le_of_ble_eq_true rfl) (by decide) (by decide) (by decide) (fun q210 hf hs => ?_)
                                                                        refine x_icmp_eq (off := 234) (tgt := 1414) hf (lw_dec (by decide +kernel)) (by decide) (fun c211 hf => ?_) (fun c211 hf => ?_)
                                                                        · refine g_iinc (i := 3) (z := 6) (v := (v3 + (6 : Int32))) (lw_dec (by decide +kernel)) rfl rfl rfl (show (3 : Nat) < 4 by decide) (ls1 := [(0, .retAddr 100), (1, .ref 0), (2, .ref 136), (3, .int (v3 + (6 : Int32)))]) rfl ?_
                                                                          refine g_goto (off := (-1399)) (tgt := 18) (lw_dec (by decide +kernel)) (by decide) ?_
                                                                          exact am_G.forget (am_subp [0, 1, 2, 3] rfl) (ih _ _ _ hs hf)
                                                                        · refine g_iconst (z := 0) (v := 0) (lw_dec (by decide +kernel)) rfl ?_
                                                                          exact x_zret rfl hf hs (lw_dec (by decide +kernel)) rfl (by decide) (by decide)
                                                                      · rw [if_neg e32] at hf
                                                                        by_cases e33 : (x2 &&& (63 : Int32)) = (33 : Int32)
                                                                        · rw [if_pos e33] at hf
                                                                          have ex : Int32.toInt (x2 &&& (63 : Int32)) = 33 := by rw [e33]; rfl
                                                                          refine x_tabIn (dflt := 1381) (lo := 0) (hi := 38) (offs := #[171, 234, 257, 280, 303, 336, 369, 402, 435, 458, 481, 504, 537, 560, 593, 626, 669, 713, 746, 779, 812, 825, 848, 871, 884, 907, 920, 933, 946, 989, 1022, 1055, 1109, 1152, 1195, 1269, 1312, 1335, 1358]) (len := 171) (off := 1152) (tgt := 1185) (lw_dec (by decide +kernel)) (by rw [ex]; decide) (by rw [ex]; decide) (by rw [ex]; rfl) (by decide) ?_
                                                                          refine g_aload_n (i := 1) (lw_dec (by decide +kernel)) rfl ?_
                                                                          refine g_aload_ns (i := 0) (lw_dec (by decide +kernel)) rfl ?_
                                                                          refine g_iload_n (i := 3) (lw_dec (by decide +kernel)) rfl ?_
                                                                          refine g_iconst (z := 1) (v := 1) (lw_dec (by decide +kernel)) rfl ?_
                                                                          refine g_iadd (lw_dec (by decide +kernel)) ?_
                                                                          refine x_sld hf rfl (lw_dec (by decide +kernel)) (fun x212 hf => ?_)
                                                                          refine g_aload_ns (i := 0) (lw_dec (by decide +kernel)) rfl ?_
                                                                          refine g_iload_n (i := 3) (lw_dec (by decide +kernel)) rfl ?_
                                                                          refine g_iconst (z := 2) (v := 2) (lw_dec (by decide +kernel)) rfl ?_
                                                                          refine g_iadd (lw_dec (by decide +kernel)) ?_
                                                                          refine x_sld hf rfl (lw_dec (by decide +kernel)) (fun x213 hf => ?_)
                                                                          refine g_aload_ns (i := 0) (lw_dec (by decide +kernel)) rfl ?_
                                                                          refine g_iload_n (i := 3) (lw_dec (by decide +kernel)) rfl ?_
                                                                          refine g_iconst (z := 3) (v := 3) (lw_dec (by decide +kernel)) rfl ?_
                                                                          refine g_iadd (lw_dec (by decide +kernel)) ?_
                                                                          refine x_sld hf rfl (lw_dec (by decide +kernel)) (fun x214 hf => ?_)
                                                                          refine x_callVI (as := [.int x212, .int x213, .int x214]) Vi_Top_numbers Vs_Top_numbers (hs.k k_0) rfl hf (fun q hq => t_Top_numbers hs  hq) Y_Top_numbers L_Lw_152 (lw_dec (by decide +kernel)) rfl rfl (Nat.le_of_ble_eq_true rfl) (by decide) (by decide) (by decide) (fun q215 hf hs => ?_)
                                                                          refine g_aload_n (i := 2) (lw_dec (by decide +kernel)) rfl ?_
                                                                          refine g_aload_ns (i := 0) (lw_dec (by decide +kernel)) rfl ?_
                                                                          refine g_iload_n (i := 3) (lw_dec (by decide +kernel)) rfl ?_
                                                                          refine g_iconst (z := 1) (v := 1) (lw_dec (by decide +kernel)) rfl ?_
                                                                          refine g_iadd (lw_dec (by decide +kernel)) ?_
                                                                          refine x_sld hf rfl (lw_dec (by decide +kernel)) (fun x216 hf => ?_)
                                                                          refine g_aload_ns (i := 0) (lw_dec (by decide +kernel)) rfl ?_
                                                                          refine g_iload_n (i := 3) (lw_dec (by decide +kernel)) rfl ?_
                                                                          refine g_iconst (z := 2) (v := 2) (lw_dec (by decide +kernel)) rfl ?_
                                                                          refine g_iadd (lw_dec (by decide +kernel)) ?_
                                                                          refine x_sld hf rfl (lw_dec (by decide +kernel)) (fun x217 hf => ?_)
                                                                          refine g_aload_ns (i := 0) (lw_dec (by decide +kernel)) rfl ?_
                                                                          refine g_iload_n (i := 3) (lw_dec (by decide +kernel)) rfl ?_
                                                                          refine g_iconst (z := 3) (v := 3) (lw_dec (by decide +kernel)) rfl ?_
                                                                          refine g_iadd (lw_dec (by decide +kernel)) ?_
                                                                          refine x_sld hf rfl (lw_dec (by decide +kernel)) (fun x218 hf => ?_)
                                                                          refine x_callVI (as := [.int x216, .int x217, .int x218]) Vi_Mod_numbers Vs_Mod_numbers (hs.k k_136) rfl hf (fun q hq => t_Mod_numbers hs  hq) Y_Mod_numbers L_Lw_155 (lw_dec (by decide +kernel)) rfl rfl (Nat.le_of_ble_eq_true rfl) (by decide) (by decide) (by decide) (fun q219 hf hs => ?_)
                                                                          refine x_icmp_eq (off := 191) (tgt := 1414) hf (lw_dec (by decide +kernel)) (by decide) (fun c220 hf => ?_) (fun c220 hf => ?_)
                                                                          · refine g_iinc (i := 3) (z := 6) (v := (v3 + (6 : Int32))) (lw_dec (by decide +kernel)) rfl rfl rfl (show (3 : Nat) < 4 by decide) (ls1 := [(0, .retAddr 100), (1, .ref 0), (2, .ref 136), (3, .int (v3 + (6 : Int32)))]) rfl ?_
                                                                            refine g_goto (off := (-1399)) (tgt := 18) (lw_dec (by decide +kernel)) (by decide) ?_
                                                                            exact am_G.forget (am_subp [0, 1, 2, 3] rfl) (ih _ _ _ hs hf)
                                                                          · refine g_iconst (z := 0) (v := 0) (lw_dec (by decide +kernel)) rfl ?_
                                                                            exact x_zret rfl hf hs (lw_dec (by decide +kernel)) rfl (by decide) (by decide)
                                                                        · rw [if_neg e33] at hf
                                                                          by_cases e34 : (x2 &&& (63 : Int32)) = (34 : Int32)
                                                                          · rw [if_pos e34] at hf
                                                                            have ex : Int32.toInt (x2 &&& (63 : Int32)) = 34 := by rw [e34]; rfl
                                                                            refine x_tabIn (dflt := 1381) (lo := 0) (hi := 38) (offs := #[171, 234, 257, 280, 303, 336, 369, 402, 435, 458, 481, 504, 537, 560, 593, 626, 669, 713, 746, 779, 812, 825, 848, 871, 884, 907, 920, 933, 946, 989, 1022, 1055, 1109, 1152, 1195, 1269, 1312, 1335, 1358]) (len := 171) (off := 1195) (tgt := 1228) (lw_dec (by decide +kernel)) (by rw [ex]; decide) (by rw [ex]; decide) (by rw [ex]; rfl) (by decide) ?_
                                                                            refine g_aload_n (i := 1) (lw_dec (by decide +kernel)) rfl ?_
                                                                            refine g_aload_ns (i := 0) (lw_dec (by decide +kernel)) rfl ?_
                                                                            refine g_iload_n (i := 3) (lw_dec (by decide +kernel)) rfl ?_
                                                                            refine g_iconst (z := 1) (v := 1) (lw_dec (by decide +kernel)) rfl ?_
                                                                            refine g_iadd (lw_dec (by decide +kernel)) ?_
                                                                            refine x_sld hf rfl (lw_dec (by decide +kernel)) (fun x221 hf => ?_)
                                                                            refine g_aload_ns (i := 0) (lw_dec (by decide +kernel)) rfl ?_
                                                                            refine g_iload_n (i := 3) (lw_dec (by decide +kernel)) rfl ?_
                                                                            refine g_iconst (z := 2) (v := 2) (lw_dec (by decide +kernel)) rfl ?_
                                                                            refine g_iadd (lw_dec (by decide +kernel)) ?_
                                                                            refine x_sld hf rfl (lw_dec (by decide +kernel)) (fun x222 hf => ?_)
                                                                            refine g_aload_ns (i := 0) (lw_dec (by decide +kernel)) rfl ?_
                                                                            refine g_iload_n (i := 3) (lw_dec (by decide +kernel)) rfl ?_
                                                                            refine g_iconst (z := 3) (v := 3) (lw_dec (by decide +kernel)) rfl ?_
                                                                            refine g_iadd (lw_dec (by decide +kernel)) ?_
                                                                            refine x_sld hf rfl (lw_dec (by decide +kernel)) (fun x223 hf => ?_)
                                                                            refine g_i2l (lw_dec (by decide +kernel)) ?_
                                                                            refine g_bipush (z := 32) (v := 32) (lw_dec (by decide +kernel)) rfl ?_
                                                                            refine g_lshl (lw_dec (by decide +kernel)) ?_
                                                                            refine g_aload_ns (i := 0) (lw_dec (by decide +kernel)) rfl ?_
                                                                            refine g_iload_n (i := 3) (lw_dec (by decide +kernel)) rfl ?_
                                                                            refine g_iconst (z := 4) (v := 4) (lw_dec (by decide +kernel)) rfl ?_
                                                                            refine g_iadd (lw_dec (by decide +kernel)) ?_
                                                                            refine x_sld hf rfl (lw_dec (by decide +kernel)) (fun x224 hf => ?_)
                                                                            refine g_i2l (lw_dec (by decide +kernel)) ?_
                                                                            refine g_ldc2 (lw_dec (by decide +kernel)) C_Lw_156 ?_
                                                                            refine g_land (lw_dec (by decide +kernel)) ?_
                                                                            refine g_lor (lw_dec (by decide +kernel)) ?_
                                                                            refine x_callVJ (as := [.int x221, .int x222, .long ((((x223).toInt64) <<< (((32 : Int32)).toInt64 &&& 63)) ||| (((x224).toInt64) &&& (4294967295 : Int64)))]) Vi_Top_write Vs_Top_write (hs.k k_0) rfl hf (fun q hq => t_Top_write hs  hq) Y_Top_write L_Lw_158 (lw_dec (by decide +kernel)) rfl rfl (Nat.le_of_ble_eq_true rfl) (by decide) (by decide) (by decide) (fun q225 hf hs => ?_)
                                                                            refine g_aload_n (i := 2) (lw_dec (by decide +kernel)) rfl ?_
                                                                            refine g_aload_ns (i := 0) (lw_dec (by decide +kernel)) rfl ?_
                                                                            refine g_iload_n (i := 3) (lw_dec (by decide +kernel)) rfl ?_
                                                                            refine g_iconst (z := 1) (v := 1) (lw_dec (by decide +kernel)) rfl ?_
                                                                            refine g_iadd (lw_dec (by decide +kernel)) ?_
                                                                            refine x_sld hf rfl (lw_dec (by decide +kernel)) (fun x226 hf => ?_)
                                                                            refine g_aload_ns (i := 0) (lw_dec (by decide +kernel)) rfl ?_
                                                                            refine g_iload_n (i := 3) (lw_dec (by decide +kernel)) rfl ?_
                                                                            refine g_iconst (z := 2) (v := 2) (lw_dec (by decide +kernel)) rfl ?_
                                                                            refine g_iadd (lw_dec (by decide +kernel)) ?_
                                                                            refine x_sld hf rfl (lw_dec (by decide +kernel)) (fun x227 hf => ?_)
                                                                            refine g_aload_ns (i := 0) (lw_dec (by decide +kernel)) rfl ?_
                                                                            refine g_iload_n (i := 3) (lw_dec (by decide +kernel)) rfl ?_
                                                                            refine g_iconst (z := 3) (v := 3) (lw_dec (by decide +kernel)) rfl ?_
                                                                            refine g_iadd (lw_dec (by decide +kernel)) ?_
                                                                            refine x_sld hf rfl (lw_dec (by decide +kernel)) (fun x228 hf => ?_)
                                                                            refine g_i2l (lw_dec (by decide +kernel)) ?_
                                                                            refine g_bipush (z := 32) (v := 32) (lw_dec (by decide +kernel)) rfl ?_
                                                                            refine g_lshl (lw_dec (by decide +kernel)) ?_
                                                                            refine g_aload_ns (i := 0) (lw_dec (by decide +kernel)) rfl ?_
                                                                            refine g_iload_n (i := 3) (lw_dec (by decide +kernel)) rfl ?_
                                                                            refine g_iconst (z := 4) (v := 4) (lw_dec (by decide +kernel)) rfl ?_
                                                                            refine g_iadd (lw_dec (by decide +kernel)) ?_
                                                                            refine x_sld hf rfl (lw_dec (by decide +kernel)) (fun x229 hf => ?_)
                                                                            refine g_i2l (lw_dec (by decide +kernel)) ?_
                                                                            refine g_ldc2 (lw_dec (by decide +kernel)) C_Lw_156 ?_
                                                                            refine g_land (lw_dec (by decide +kernel)) ?_
                                                                            refine g_lor (lw_dec (by decide +kernel)) ?_
                                                                            refine x_callVJ (as := [.int x226, .int x227, .long ((((x228).toInt64) <<< (((32 : Int32)).toInt64 &&& 63)) ||| (((x229).toInt64) &&& (4294967295 : Int64)))]) Vi_Mod_write Vs_Mod_write (hs.k k_136) rfl hf (fun q hq => t_Mod_write hs  hq) Y_Mod_write L_Lw_162 (lw_dec (by decide +kernel)) rfl rfl (Nat.le_of_ble_eq_true rfl) (by decide) (by decide) (by decide) (fun q230 hf hs => ?_)
                                                                            refine g_lcmp (lw_dec (by decide +kernel)) ?_
                                                                            refine x_if_eq (off := 117) (tgt := 1414) hf (lw_dec (by decide +kernel)) (by decide) (fun c231 hf => ?_) (fun c231 hf => ?_)
                                                                            · refine g_iinc (i := 3) (z := 6) (v := (v3 + (6 : Int32))) (lw_dec (by decide +kernel)) rfl rfl rfl (show (3 : Nat) < 4 by decide) (ls1 := [(0, .retAddr 100), (1, .ref 0), (2, .ref 136), (3, .int (v3 + (6 : Int32)))]) rfl ?_
                                                                              refine g_goto (off := (-1399)) (tgt := 18) (lw_dec (by decide +kernel)) (by decide) ?_
                                                                              exact am_G.forget (am_subp [0, 1, 2, 3] rfl) (ih _ _ _ hs hf)
                                                                            · refine g_iconst (z := 0) (v := 0) (lw_dec (by decide +kernel)) rfl ?_
                                                                              exact x_zret rfl hf hs (lw_dec (by decide +kernel)) rfl (by decide) (by decide)
                                                                          · rw [if_neg e34] at hf
                                                                            by_cases e35 : (x2 &&& (63 : Int32)) = (35 : Int32)
                                                                            · rw [if_pos e35] at hf
                                                                              have ex : Int32.toInt (x2 &&& (63 : Int32)) = 35 := by rw [e35]; rfl
                                                                              refine x_tabIn (dflt := 1381) (lo := 0) (hi := 38) (offs := #[171, 234, 257, 280, 303, 336, 369, 402, 435, 458, 481, 504, 537, 560, 593, 626, 669, 713, 746, 779, 812, 825, 848, 871, 884, 907, 920, 933, 946, 989, 1022, 1055, 1109, 1152, 1195, 1269, 1312, 1335, 1358]) (len := 171) (off := 1269) (tgt := 1302) (lw_dec (by decide +kernel)) (by rw [ex]; decide) (by rw [ex]; decide) (by rw [ex]; rfl) (by decide) ?_
                                                                              refine g_aload_n (i := 1) (lw_dec (by decide +kernel)) rfl ?_
                                                                              refine g_aload_ns (i := 0) (lw_dec (by decide +kernel)) rfl ?_
                                                                              refine g_iload_n (i := 3) (lw_dec (by decide +kernel)) rfl ?_
                                                                              refine g_iconst (z := 1) (v := 1) (lw_dec (by decide +kernel)) rfl ?_
                                                                              refine g_iadd (lw_dec (by decide +kernel)) ?_
                                                                              refine x_sld hf rfl (lw_dec (by decide +kernel)) (fun x232 hf => ?_)
                                                                              refine g_aload_ns (i := 0) (lw_dec (by decide +kernel)) rfl ?_
                                                                              refine g_iload_n (i := 3) (lw_dec (by decide +kernel)) rfl ?_
                                                                              refine g_iconst (z := 2) (v := 2) (lw_dec (by decide +kernel)) rfl ?_
                                                                              refine g_iadd (lw_dec (by decide +kernel)) ?_
                                                                              refine x_sld hf rfl (lw_dec (by decide +kernel)) (fun x233 hf => ?_)
                                                                              refine g_aload_ns (i := 0) (lw_dec (by decide +kernel)) rfl ?_
                                                                              refine g_iload_n (i := 3) (lw_dec (by decide +kernel)) rfl ?_
                                                                              refine g_iconst (z := 3) (v := 3) (lw_dec (by decide +kernel)) rfl ?_
                                                                              refine g_iadd (lw_dec (by decide +kernel)) ?_
                                                                              refine x_sld hf rfl (lw_dec (by decide +kernel)) (fun x234 hf => ?_)
                                                                              refine x_callVI (as := [.int x232, .int x233, .int x234]) Vi_Top_lists Vs_Top_lists (hs.k k_0) rfl hf (fun q hq => t_Top_lists hs  hq) Y_Top_lists L_Lw_163 (lw_dec (by decide +kernel)) rfl rfl (Nat.le_of_ble_eq_true rfl) (by decide) (by decide) (by decide) (fun q235 hf hs => ?_)
                                                                              refine g_aload_n (i := 2) (lw_dec (by decide +kernel)) rfl ?_
                                                                              refine g_aload_ns (i := 0) (lw_dec (by decide +kernel)) rfl ?_
                                                                              refine g_iload_n (i := 3) (lw_dec (by decide +kernel)) rfl ?_
                                                                              refine g_iconst (z := 1) (v := 1) (lw_dec (by decide +kernel)) rfl ?_
                                                                              refine g_iadd (lw_dec (by decide +kernel)) ?_
                                                                              refine x_sld hf rfl (lw_dec (by decide +kernel)) (fun x236 hf => ?_)
                                                                              refine g_aload_ns (i := 0) (lw_dec (by decide +kernel)) rfl ?_
                                                                              refine g_iload_n (i := 3) (lw_dec (by decide +kernel)) rfl ?_
                                                                              refine g_iconst (z := 2) (v := 2) (lw_dec (by decide +kernel)) rfl ?_
                                                                              refine g_iadd (lw_dec (by decide +kernel)) ?_
                                                                              refine x_sld hf rfl (lw_dec (by decide +kernel)) (fun x237 hf => ?_)
                                                                              refine g_aload_ns (i := 0) (lw_dec (by decide +kernel)) rfl ?_
                                                                              refine g_iload_n (i := 3) (lw_dec (by decide +kernel)) rfl ?_
                                                                              refine g_iconst (z := 3) (v := 3) (lw_dec (by decide +kernel)) rfl ?_
                                                                              refine g_iadd (lw_dec (by decide +kernel)) ?_
                                                                              refine x_sld hf rfl (lw_dec (by decide +kernel)) (fun x238 hf => ?_)
                                                                              refine x_callVI (as := [.int x236, .int x237, .int x238]) Vi_Mod_lists Vs_Mod_lists (hs.k k_136) rfl hf (fun q hq => t_Mod_lists hs  hq) Y_Mod_lists L_Lw_166 (lw_dec (by decide +kernel)) rfl rfl (Nat.le_of_ble_eq_true rfl) (by decide) (by decide) (by decide) (fun q239 hf hs => ?_)
                                                                              refine x_icmp_eq (off := 74) (tgt := 1414) hf (lw_dec (by decide +kernel)) (by decide) (fun c240 hf => ?_) (fun c240 hf => ?_)
                                                                              · refine g_iinc (i := 3) (z := 6) (v := (v3 + (6 : Int32))) (lw_dec (by decide +kernel)) rfl rfl rfl (show (3 : Nat) < 4 by decide) (ls1 := [(0, .retAddr 100), (1, .ref 0), (2, .ref 136), (3, .int (v3 + (6 : Int32)))]) rfl ?_
                                                                                refine g_goto (off := (-1399)) (tgt := 18) (lw_dec (by decide +kernel)) (by decide) ?_
                                                                                exact am_G.forget (am_subp [0, 1, 2, 3] rfl) (ih _ _ _ hs hf)
                                                                              · refine g_iconst (z := 0) (v := 0) (lw_dec (by decide +kernel)) rfl ?_
                                                                                exact x_zret rfl hf hs (lw_dec (by decide +kernel)) rfl (by decide) (by decide)
                                                                            · rw [if_neg e35] at hf
                                                                              by_cases e36 : (x2 &&& (63 : Int32)) = (36 : Int32)
                                                                              · rw [if_pos e36] at hf
                                                                                have ex : Int32.toInt (x2 &&& (63 : Int32)) = 36 := by rw [e36]; rfl
                                                                                refine x_tabIn (dflt := 1381) (lo := 0) (hi := 38) (offs := #[171, 234, 257, 280, 303, 336, 369, 402, 435, 458, 481, 504, 537, 560, 593, 626, 669, 713, 746, 779, 812, 825, 848, 871, 884, 907, 920, 933, 946, 989, 1022, 1055, 1109, 1152, 1195, 1269, 1312, 1335, 1358]) (len := 171) (off := 1312) (tgt := 1345) (lw_dec (by decide +kernel)) (by rw [ex]; decide) (by rw [ex]; decide) (by rw [ex]; rfl) (by decide) ?_
                                                                                refine g_aload_n (i := 1) (lw_dec (by decide +kernel)) rfl ?_
                                                                                refine g_aload_ns (i := 0) (lw_dec (by decide +kernel)) rfl ?_
                                                                                refine g_iload_n (i := 3) (lw_dec (by decide +kernel)) rfl ?_
                                                                                refine g_iconst (z := 1) (v := 1) (lw_dec (by decide +kernel)) rfl ?_
                                                                                refine g_iadd (lw_dec (by decide +kernel)) ?_
                                                                                refine x_sld hf rfl (lw_dec (by decide +kernel)) (fun x241 hf => ?_)
                                                                                refine x_callVI (as := [.int x241]) Vi_Top_image Vs_Top_image (hs.k k_0) rfl hf (fun q hq => t_Top_image hs  hq) Y_Top_image L_Lw_167 (lw_dec (by decide +kernel)) rfl rfl (Nat.le_of_ble_eq_true rfl) (by decide) (by decide) (by decide) (fun q242 hf hs => ?_)
                                                                                refine g_aload_n (i := 2) (lw_dec (by decide +kernel)) rfl ?_
                                                                                refine g_aload_ns (i := 0) (lw_dec (by decide +kernel)) rfl ?_
                                                                                refine g_iload_n (i := 3) (lw_dec (by decide +kernel)) rfl ?_
                                                                                refine g_iconst (z := 1) (v := 1) (lw_dec (by decide +kernel)) rfl ?_
                                                                                refine g_iadd (lw_dec (by decide +kernel)) ?_
                                                                                refine x_sld hf rfl (lw_dec (by decide +kernel)) (fun x243 hf => ?_)
                                                                                refine x_callVI (as := [.int x243]) Vi_Mod_image Vs_Mod_image (hs.k k_136) rfl hf (fun q hq => t_Mod_image hs  hq) Y_Mod_image L_Lw_170 (lw_dec (by decide +kernel)) rfl rfl (Nat.le_of_ble_eq_true rfl) (by decide) (by decide) (by decide) (fun q244 hf hs => ?_)
                                                                                refine x_icmp_eq (off := 51) (tgt := 1414) hf (lw_dec (by decide +kernel)) (by decide) (fun c245 hf => ?_) (fun c245 hf => ?_)
                                                                                · refine g_iinc (i := 3) (z := 6) (v := (v3 + (6 : Int32))) (lw_dec (by decide +kernel)) rfl rfl rfl (show (3 : Nat) < 4 by decide) (ls1 := [(0, .retAddr 100), (1, .ref 0), (2, .ref 136), (3, .int (v3 + (6 : Int32)))]) rfl ?_
                                                                                  refine g_goto (off := (-1399)) (tgt := 18) (lw_dec (by decide +kernel)) (by decide) ?_
                                                                                  exact am_G.forget (am_subp [0, 1, 2, 3] rfl) (ih _ _ _ hs hf)
                                                                                · refine g_iconst (z := 0) (v := 0) (lw_dec (by decide +kernel)) rfl ?_
                                                                                  exact x_zret rfl hf hs (lw_dec (by decide +kernel)) rfl (by decide) (by decide)
                                                                              · rw [if_neg e36] at hf
                                                                                by_cases e37 : (x2 &&& (63 : Int32)) = (37 : Int32)
                                                                                · rw [if_pos e37] at hf
                                                                                  have ex : Int32.toInt (x2 &&& (63 : Int32)) = 37 := by rw [e37]; rfl
                                                                                  refine x_tabIn (dflt := 1381) (lo := 0) (hi := 38) (offs := #[171, 234, 257, 280, 303, 336, 369, 402, 435, 458, 481, 504, 537, 560, 593, 626, 669, 713, 746, 779, 812, 825, 848, 871, 884, 907, 920, 933, 946, 989, 1022, 1055, 1109, 1152, 1195, 1269, 1312, 1335, 1358]) (len := 171) (off := 1335) (tgt := 1368) (lw_dec (by decide +kernel)) (by rw [ex]; decide) (by rw [ex]; decide) (by rw [ex]; rfl) (by decide) ?_
                                                                                  refine g_aload_n (i := 1) (lw_dec (by decide +kernel)) rfl ?_
                                                                                  refine g_aload_ns (i := 0) (lw_dec (by decide +kernel)) rfl ?_
                                                                                  refine g_iload_n (i := 3) (lw_dec (by decide +kernel)) rfl ?_
                                                                                  refine g_iconst (z := 1) (v := 1) (lw_dec (by decide +kernel)) rfl ?_
                                                                                  refine g_iadd (lw_dec (by decide +kernel)) ?_
                                                                                  refine x_sld hf rfl (lw_dec (by decide +kernel)) (fun x246 hf => ?_)
                                                                                  refine x_callVI (as := [.int x246]) Vi_Top_restore Vs_Top_restore (hs.k k_0) rfl hf (fun q hq => t_Top_restore hs  hq) Y_Top_restore L_Lw_171 (lw_dec (by decide +kernel)) rfl rfl (Nat.le_of_ble_eq_true rfl) (by decide) (by decide) (by decide) (fun q247 hf hs => ?_)
                                                                                  refine g_aload_n (i := 2) (lw_dec (by decide +kernel)) rfl ?_
                                                                                  refine g_aload_ns (i := 0) (lw_dec (by decide +kernel)) rfl ?_
                                                                                  refine g_iload_n (i := 3) (lw_dec (by decide +kernel)) rfl ?_
                                                                                  refine g_iconst (z := 1) (v := 1) (lw_dec (by decide +kernel)) rfl ?_
                                                                                  refine g_iadd (lw_dec (by decide +kernel)) ?_
                                                                                  refine x_sld hf rfl (lw_dec (by decide +kernel)) (fun x248 hf => ?_)
                                                                                  refine x_callVI (as := [.int x248]) Vi_Mod_restore Vs_Mod_restore (hs.k k_136) rfl hf (fun q hq => t_Mod_restore hs  hq) Y_Mod_restore L_Lw_174 (lw_dec (by decide +kernel)) rfl rfl (Nat.le_of_ble_eq_true rfl) (by decide) (by decide) (by decide) (fun q249 hf hs => ?_)
                                                                                  refine x_icmp_eq (off := 28) (tgt := 1414) hf (lw_dec (by decide +kernel)) (by decide) (fun c250 hf => ?_) (fun c250 hf => ?_)
                                                                                  · refine g_iinc (i := 3) (z := 6) (v := (v3 + (6 : Int32))) (lw_dec (by decide +kernel)) rfl rfl rfl (show (3 : Nat) < 4 by decide) (ls1 := [(0, .retAddr 100), (1, .ref 0), (2, .ref 136), (3, .int (v3 + (6 : Int32)))]) rfl ?_
                                                                                    refine g_goto (off := (-1399)) (tgt := 18) (lw_dec (by decide +kernel)) (by decide) ?_
                                                                                    exact am_G.forget (am_subp [0, 1, 2, 3] rfl) (ih _ _ _ hs hf)
                                                                                  · refine g_iconst (z := 0) (v := 0) (lw_dec (by decide +kernel)) rfl ?_
                                                                                    exact x_zret rfl hf hs (lw_dec (by decide +kernel)) rfl (by decide) (by decide)
                                                                                · rw [if_neg e37] at hf
                                                                                  by_cases e38 : (x2 &&& (63 : Int32)) = (38 : Int32)
                                                                                  · rw [if_pos e38] at hf
                                                                                    have ex : Int32.toInt (x2 &&& (63 : Int32)) = 38 := by rw [e38]; rfl
                                                                                    refine x_tabIn (dflt := 1381) (lo := 0) (hi := 38) (offs := #[171, 234, 257, 280, 303, 336, 369, 402, 435, 458, 481, 504, 537, 560, 593, 626, 669, 713, 746, 779, 812, 825, 848, 871, 884, 907, 920, 933, 946, 989, 1022, 1055, 1109, 1152, 1195, 1269, 1312, 1335, 1358]) (len := 171) (off := 1358) (tgt := 1391) (lw_dec (by decide +kernel)) (by rw [ex]; decide) (by rw [ex]; decide) (by rw [ex]; rfl) (by decide) ?_
                                                                                    refine g_aload_n (i := 1) (lw_dec (by decide +kernel)) rfl ?_
                                                                                    refine g_aload_ns (i := 0) (lw_dec (by decide +kernel)) rfl ?_
                                                                                    refine g_iload_n (i := 3) (lw_dec (by decide +kernel)) rfl ?_
                                                                                    refine g_iconst (z := 1) (v := 1) (lw_dec (by decide +kernel)) rfl ?_
                                                                                    refine g_iadd (lw_dec (by decide +kernel)) ?_
                                                                                    refine x_sld hf rfl (lw_dec (by decide +kernel)) (fun x251 hf => ?_)
                                                                                    refine x_callVIp (as := [.int x251]) Vi_Top_count Vs_Top_count (hs.k k_0) rfl hf (fun q hq => t_Top_count hs  hq) Y_Top_count L_Lw_175 (lw_dec (by decide +kernel)) rfl rfl (Nat.le_of_ble_eq_true rfl) (by decide) (by decide) (by decide) (fun q252 hf => ?_)
                                                                                    refine g_aload_n (i := 2) (lw_dec (by decide +kernel)) rfl ?_
                                                                                    refine g_aload_ns (i := 0) (lw_dec (by decide +kernel)) rfl ?_
                                                                                    refine g_iload_n (i := 3) (lw_dec (by decide +kernel)) rfl ?_
                                                                                    refine g_iconst (z := 1) (v := 1) (lw_dec (by decide +kernel)) rfl ?_
                                                                                    refine g_iadd (lw_dec (by decide +kernel)) ?_
                                                                                    refine x_sld hf rfl (lw_dec (by decide +kernel)) (fun x253 hf => ?_)
                                                                                    refine x_callVI (as := [.int x253]) Vi_Mod_count Vs_Mod_count (hs.k k_136) rfl hf (fun q hq => t_Mod_count hs  hq) Y_Mod_count L_Lw_178 (lw_dec (by decide +kernel)) rfl rfl (Nat.le_of_ble_eq_true rfl) (by decide) (by decide) (by decide) (fun q254 hf hs => ?_)
                                                                                    refine x_icmp_eq (off := 5) (tgt := 1414) hf (lw_dec (by decide +kernel)) (by decide) (fun c255 hf => ?_) (fun c255 hf => ?_)
                                                                                    · refine g_iinc (i := 3) (z := 6) (v := (v3 + (6 : Int32))) (lw_dec (by decide +kernel)) rfl rfl rfl (show (3 : Nat) < 4 by decide) (ls1 := [(0, .retAddr 100), (1, .ref 0), (2, .ref 136), (3, .int (v3 + (6 : Int32)))]) rfl ?_
                                                                                      refine g_goto (off := (-1399)) (tgt := 18) (lw_dec (by decide +kernel)) (by decide) ?_
                                                                                      exact am_G.forget (am_subp [0, 1, 2, 3] rfl) (ih _ _ _ hs hf)
                                                                                    · refine g_iconst (z := 0) (v := 0) (lw_dec (by decide +kernel)) rfl ?_
                                                                                      exact x_zret rfl hf hs (lw_dec (by decide +kernel)) rfl (by decide) (by decide)
                                                                                  · rw [if_neg e38] at hf
                                                                                    refine x_tabOut (dflt := 1381) (lo := 0) (hi := 38) (offs := #[171, 234, 257, 280, 303, 336, 369, 402, 435, 458, 481, 504, 537, 560, 593, 626, 669, 713, 746, 779, 812, 825, 848, 871, 884, 907, 920, 933, 946, 989, 1022, 1055, 1109, 1152, 1195, 1269, 1312, 1335, 1358]) (len := 171) (tgt := 1414) (lw_dec (by decide +kernel)) (am_tabNe ⟨by decide, by decide⟩ (fun z hz => ?_)) (by decide) ?_
                                                                                    · have hz : z < 39 := hz
                                                                                      have : z = 0 ∨ z = 1 ∨ z = 2 ∨ z = 3 ∨ z = 4 ∨ z = 5 ∨ z = 6 ∨ z = 7 ∨ z = 8 ∨ z = 9 ∨ z = 10 ∨ z = 11 ∨ z = 12 ∨ z = 13 ∨ z = 14 ∨ z = 15 ∨ z = 16 ∨ z = 17 ∨ z = 18 ∨ z = 19 ∨ z = 20 ∨ z = 21 ∨ z = 22 ∨ z = 23 ∨ z = 24 ∨ z = 25 ∨ z = 26 ∨ z = 27 ∨ z = 28 ∨ z = 29 ∨ z = 30 ∨ z = 31 ∨ z = 32 ∨ z = 33 ∨ z = 34 ∨ z = 35 ∨ z = 36 ∨ z = 37 ∨ z = 38 := by omega
                                                                                      rcases this with rfl | rfl | rfl | rfl | rfl | rfl | rfl | rfl | rfl | rfl | rfl | rfl | rfl | rfl | rfl | rfl | rfl | rfl | rfl | rfl | rfl | rfl | rfl | rfl | rfl | rfl | rfl | rfl | rfl | rfl | rfl | rfl | rfl | rfl | rfl | rfl | rfl | rfl | rfl
                                                                                      · exact e0
                                                                                      · exact e1
                                                                                      · exact e2
                                                                                      · exact e3
                                                                                      · exact e4
                                                                                      · exact e5
                                                                                      · exact e6
                                                                                      · exact e7
                                                                                      · exact e8
                                                                                      · exact e9
                                                                                      · exact e10
                                                                                      · exact e11
                                                                                      · exact e12
                                                                                      · exact e13
                                                                                      · exact e14
                                                                                      · exact e15
                                                                                      · exact e16
                                                                                      · exact e17
                                                                                      · exact e18
                                                                                      · exact e19
                                                                                      · exact e20
                                                                                      · exact e21
                                                                                      · exact e22
                                                                                      · exact e23
                                                                                      · exact e24
                                                                                      · exact e25
                                                                                      · exact e26
                                                                                      · exact e27
                                                                                      · exact e28
                                                                                      · exact e29
                                                                                      · exact e30
                                                                                      · exact e31
                                                                                      · exact e32
                                                                                      · exact e33
                                                                                      · exact e34
                                                                                      · exact e35
                                                                                      · exact e36
                                                                                      · exact e37
                                                                                      · exact e38
                                                                                    · refine g_iinc (i := 3) (z := 6) (v := (v3 + (6 : Int32))) (lw_dec (by decide +kernel)) rfl rfl rfl (show (3 : Nat) < 4 by decide) (ls1 := [(0, .retAddr 100), (1, .ref 0), (2, .ref 136), (3, .int (v3 + (6 : Int32)))]) rfl ?_
                                                                                      refine g_goto (off := (-1399)) (tgt := 18) (lw_dec (by decide +kernel)) (by decide) ?_
                                                                                      exact am_G.forget (am_subp [0, 1, 2, 3] rfl) (ih _ _ _ hs hf)
