/-! the law's loop over all rounds -/
theorem lw_end {L i : Nat} (hL : L ≤ 256) (hi : i ≤ 300) : (Int32.ofNat L - 4 < nI i) ↔ L < i + 4 := by
  have h : (nI L - nI 4).toInt = (L : Int) - (4 : Nat) := pk_sub_toInt (by omega) (by omega)
  have h' : (Int32.ofNat L - 4).toInt = (L : Int) - (4 : Nat) := h
  rw [fa_lt, h', nI_i (by omega)]
  omega
theorem lw_b {L i : Nat} {xs : Nat → Int32} {x_x_length : Int32} {x_x_seedNow : Int64} {r_x_letters : Nat → Int32} {x_x_parser_wanted : Int32} {x_x_parser_sort : Int32} {x_x_parser_house_truth : Int32} {x_x_parser_house_caskets : Int32} {x_x_parser_house_wooers : Int32} {r_x_parser_house_metals : Nat → Int32} {r_x_parser_house_kinds : Nat → Int32} {x_x_parser_standing_picture : Int32} {x_x_parser_standing_sung : Int32} {x_x_parser_standing_tried : Int32} {x_x_parser_standing_wed : Int32} {r_x_parser_standing_lines : Nat → Int32} {r_x_parser_standing_picked : Nat → Int32} {x_x_house_truth : Int32} {x_x_house_caskets : Int32} {x_x_house_wooers : Int32} {r_x_house_metals : Nat → Int32} {r_x_house_kinds : Nat → Int32} {x_x_now_picture : Int32} {x_x_now_sung : Int32} {x_x_now_tried : Int32} {x_x_now_wed : Int32} {r_x_now_lines : Nat → Int32} {r_x_now_picked : Nat → Int32} {x_x_spare_picture : Int32} {x_x_spare_sung : Int32} {x_x_spare_tried : Int32} {x_x_spare_wed : Int32} {r_x_spare_lines : Nat → Int32} {r_x_spare_picked : Nat → Int32} {x_x_acts_size : Int32} {r_x_acts_doings : Nat → Int32} {r_x_acts_caskets : Nat → Int32} {r_x_acts_before : Nat → Int32} {x_x_slotZero_filled : Int32} {x_x_slotZero_standing_picture : Int32} {x_x_slotZero_standing_sung : Int32} {x_x_slotZero_standing_tried : Int32} {x_x_slotZero_standing_wed : Int32} {r_x_slotZero_standing_lines : Nat → Int32} {r_x_slotZero_standing_picked : Nat → Int32} {x_x_slotOne_filled : Int32} {x_x_slotOne_standing_picture : Int32} {x_x_slotOne_standing_sung : Int32} {x_x_slotOne_standing_tried : Int32} {x_x_slotOne_standing_wed : Int32} {r_x_slotOne_standing_lines : Nat → Int32} {r_x_slotOne_standing_picked : Nat → Int32} {x_y_isTrue : Int32} {x_y_caskets : Int32} {x_y_wooers : Int32} {x_y_readTrue : Int32} {x_y_readCaskets : Int32} {x_y_readWooers : Int32} {x_y_readPicture : Int32} {x_y_length : Int32} {x_y_at : Int32} {x_y_faultAt : Int32} {x_y_acts : Int32} {x_y_next : Int32} {x_y_riddleMany : Int32} {x_y_seed : Int64} {r_y_metal : Nat → Int32} {r_y_kind : Nat → Int32} {r_y_now : Nat → Int32} {r_y_readOf : Nat → Int32} {r_y_readKind : Nat → Int32} {r_y_text : Nat → Int32} {r_y_row : Nat → Int32} {r_y_nots : Nat → Int32} {r_y_isKept : Nat → Int32} {r_y_kept : Nat → Int32} {k18 : Int32 × Int64 × (Nat → Int32) × Int32 × Int32 × Int32 × Int32 × Int32 × (Nat → Int32) × (Nat → Int32) × Int32 × Int32 × Int32 × Int32 × (Nat → Int32) × Int32 × Int32 × Int32 × (Nat → Int32) × (Nat → Int32) × Int32 × Int32 × Int32 × Int32 × (Nat → Int32) × (Nat → Int32) × Int32 × Int32 × Int32 × Int32 × (Nat → Int32) × (Nat → Int32) × Int32 × (Nat → Int32) × (Nat → Int32) × (Nat → Int32) × Int32 × Int32 × Int32 × Int32 × Int32 × (Nat → Int32) × (Nat → Int32) × Int32 × Int32 × Int32 × Int32 × Int32 × (Nat → Int32) × (Nat → Int32) × Int32 × Int32 × Int32 × Int32 × Int32 × Int32 × Int32 × Int32 × Int32 × Int32 × Int32 × Int32 × Int32 × Int64 × (Nat → Int32) × (Nat → Int32) × (Nat → Int32) × (Nat → Int32) × (Nat → Int32) × (Nat → Int32) × (Nat → Int32) × (Nat → Int32) × (Nat → Int32) × (Nat → Int32) × Int32 → Option (Int32)} (hL : L ≤ 256) (hi : i + 4 ≤ L) (hR : Rel x_x_length x_x_seedNow r_x_letters x_x_house_truth x_x_house_caskets x_x_house_wooers r_x_house_metals r_x_house_kinds x_x_now_picture x_x_now_sung x_x_now_tried x_x_now_wed r_x_now_lines r_x_now_picked x_x_acts_size r_x_acts_doings r_x_acts_caskets r_x_acts_before x_x_slotZero_filled x_x_slotZero_standing_picture x_x_slotZero_standing_sung x_x_slotZero_standing_tried x_x_slotZero_standing_wed r_x_slotZero_standing_lines r_x_slotZero_standing_picked x_x_slotOne_filled x_x_slotOne_standing_picture x_x_slotOne_standing_sung x_x_slotOne_standing_tried x_x_slotOne_standing_wed r_x_slotOne_standing_lines r_x_slotOne_standing_picked x_y_isTrue x_y_caskets x_y_wooers x_y_length x_y_acts x_y_next x_y_seed r_y_metal r_y_kind r_y_now r_y_text r_y_row r_y_isKept r_y_kept) (hk : ∀ {x_x_length : Int32} {x_x_seedNow : Int64} {r_x_letters : Nat → Int32} {x_x_parser_wanted : Int32} {x_x_parser_sort : Int32} {x_x_parser_house_truth : Int32} {x_x_parser_house_caskets : Int32} {x_x_parser_house_wooers : Int32} {r_x_parser_house_metals : Nat → Int32} {r_x_parser_house_kinds : Nat → Int32} {x_x_parser_standing_picture : Int32} {x_x_parser_standing_sung : Int32} {x_x_parser_standing_tried : Int32} {x_x_parser_standing_wed : Int32} {r_x_parser_standing_lines : Nat → Int32} {x_x_house_truth : Int32} {x_x_house_caskets : Int32} {x_x_house_wooers : Int32} {r_x_house_metals : Nat → Int32} {r_x_house_kinds : Nat → Int32} {x_x_now_picture : Int32} {x_x_now_sung : Int32} {x_x_now_tried : Int32} {x_x_now_wed : Int32} {r_x_now_lines : Nat → Int32} {r_x_now_picked : Nat → Int32} {x_x_spare_picture : Int32} {x_x_spare_sung : Int32} {x_x_spare_tried : Int32} {x_x_spare_wed : Int32} {r_x_spare_lines : Nat → Int32} {r_x_spare_picked : Nat → Int32} {x_x_acts_size : Int32} {r_x_acts_doings : Nat → Int32} {r_x_acts_caskets : Nat → Int32} {r_x_acts_before : Nat → Int32} {x_x_slotZero_filled : Int32} {x_x_slotZero_standing_picture : Int32} {x_x_slotZero_standing_sung : Int32} {x_x_slotZero_standing_tried : Int32} {x_x_slotZero_standing_wed : Int32} {r_x_slotZero_standing_lines : Nat → Int32} {r_x_slotZero_standing_picked : Nat → Int32} {x_x_slotOne_filled : Int32} {x_x_slotOne_standing_picture : Int32} {x_x_slotOne_standing_sung : Int32} {x_x_slotOne_standing_tried : Int32} {x_x_slotOne_standing_wed : Int32} {r_x_slotOne_standing_lines : Nat → Int32} {r_x_slotOne_standing_picked : Nat → Int32} {x_y_isTrue : Int32} {x_y_caskets : Int32} {x_y_wooers : Int32} {x_y_readTrue : Int32} {x_y_readCaskets : Int32} {x_y_readWooers : Int32} {x_y_readPicture : Int32} {x_y_length : Int32} {x_y_at : Int32} {x_y_faultAt : Int32} {x_y_acts : Int32} {x_y_next : Int32} {x_y_riddleMany : Int32} {x_y_seed : Int64} {r_y_metal : Nat → Int32} {r_y_kind : Nat → Int32} {r_y_now : Nat → Int32} {r_y_readOf : Nat → Int32} {r_y_readKind : Nat → Int32} {r_y_text : Nat → Int32} {r_y_row : Nat → Int32} {r_y_nots : Nat → Int32} {r_y_isKept : Nat → Int32} {r_y_kept : Nat → Int32}, Rel x_x_length x_x_seedNow r_x_letters x_x_house_truth x_x_house_caskets x_x_house_wooers r_x_house_metals r_x_house_kinds x_x_now_picture x_x_now_sung x_x_now_tried x_x_now_wed r_x_now_lines r_x_now_picked x_x_acts_size r_x_acts_doings r_x_acts_caskets r_x_acts_before x_x_slotZero_filled x_x_slotZero_standing_picture x_x_slotZero_standing_sung x_x_slotZero_standing_tried x_x_slotZero_standing_wed r_x_slotZero_standing_lines r_x_slotZero_standing_picked x_x_slotOne_filled x_x_slotOne_standing_picture x_x_slotOne_standing_sung x_x_slotOne_standing_tried x_x_slotOne_standing_wed r_x_slotOne_standing_lines r_x_slotOne_standing_picked x_y_isTrue x_y_caskets x_y_wooers x_y_length x_y_acts x_y_next x_y_seed r_y_metal r_y_kind r_y_now r_y_text r_y_row r_y_isKept r_y_kept → k18 (x_x_length, x_x_seedNow, r_x_letters, x_x_parser_wanted, x_x_parser_sort, x_x_parser_house_truth, x_x_parser_house_caskets, x_x_parser_house_wooers, r_x_parser_house_metals, r_x_parser_house_kinds, x_x_parser_standing_picture, x_x_parser_standing_sung, x_x_parser_standing_tried, x_x_parser_standing_wed, r_x_parser_standing_lines, x_x_house_truth, x_x_house_caskets, x_x_house_wooers, r_x_house_metals, r_x_house_kinds, x_x_now_picture, x_x_now_sung, x_x_now_tried, x_x_now_wed, r_x_now_lines, r_x_now_picked, x_x_spare_picture, x_x_spare_sung, x_x_spare_tried, x_x_spare_wed, r_x_spare_lines, r_x_spare_picked, x_x_acts_size, r_x_acts_doings, r_x_acts_caskets, r_x_acts_before, x_x_slotZero_filled, x_x_slotZero_standing_picture, x_x_slotZero_standing_sung, x_x_slotZero_standing_tried, x_x_slotZero_standing_wed, r_x_slotZero_standing_lines, r_x_slotZero_standing_picked, x_x_slotOne_filled, x_x_slotOne_standing_picture, x_x_slotOne_standing_sung, x_x_slotOne_standing_tried, x_x_slotOne_standing_wed, r_x_slotOne_standing_lines, r_x_slotOne_standing_picked, x_y_isTrue, x_y_caskets, x_y_wooers, x_y_readTrue, x_y_readCaskets, x_y_readWooers, x_y_readPicture, x_y_length, x_y_at, x_y_faultAt, x_y_acts, x_y_next, x_y_riddleMany, x_y_seed, r_y_metal, r_y_kind, r_y_now, r_y_readOf, r_y_readKind, r_y_text, r_y_row, r_y_nots, r_y_isKept, r_y_kept, nI (i + 4)) = some 1) : f_law_18_b L xs r_x_parser_standing_picked k18 x_x_length x_x_seedNow r_x_letters x_x_parser_wanted x_x_parser_sort x_x_parser_house_truth x_x_parser_house_caskets x_x_parser_house_wooers r_x_parser_house_metals r_x_parser_house_kinds x_x_parser_standing_picture x_x_parser_standing_sung x_x_parser_standing_tried x_x_parser_standing_wed r_x_parser_standing_lines x_x_house_truth x_x_house_caskets x_x_house_wooers r_x_house_metals r_x_house_kinds x_x_now_picture x_x_now_sung x_x_now_tried x_x_now_wed r_x_now_lines r_x_now_picked x_x_spare_picture x_x_spare_sung x_x_spare_tried x_x_spare_wed r_x_spare_lines r_x_spare_picked x_x_acts_size r_x_acts_doings r_x_acts_caskets r_x_acts_before x_x_slotZero_filled x_x_slotZero_standing_picture x_x_slotZero_standing_sung x_x_slotZero_standing_tried x_x_slotZero_standing_wed r_x_slotZero_standing_lines r_x_slotZero_standing_picked x_x_slotOne_filled x_x_slotOne_standing_picture x_x_slotOne_standing_sung x_x_slotOne_standing_tried x_x_slotOne_standing_wed r_x_slotOne_standing_lines r_x_slotOne_standing_picked x_y_isTrue x_y_caskets x_y_wooers x_y_readTrue x_y_readCaskets x_y_readWooers x_y_readPicture x_y_length x_y_at x_y_faultAt x_y_acts x_y_next x_y_riddleMany x_y_seed r_y_metal r_y_kind r_y_now r_y_readOf r_y_readKind r_y_text r_y_row r_y_nots r_y_isKept r_y_kept (nI i) = some 1 := by
  have t0 : Int32.toNatClampNeg (nI i) = i := nI_clamp (by omega)
  unfold f_law_18_b
  rw [if_neg (fun q => by have := (lw_end hL (by omega)).mp q; omega), t0, if_neg (gdf (show i < L by omega) (by omega))]
  by_cases z0 : xs i &&& 31 = 0
  · rw [if_pos z0]
    exact lw_148 hL hi hR hk
  rw [if_neg z0]
  by_cases z1 : xs i &&& 31 = 1
  · rw [if_pos z1]
    exact lw_171 hL hi hR hk
  rw [if_neg z1]
  by_cases z2 : xs i &&& 31 = 2
  · rw [if_pos z2]
    exact lw_184 hL hi hR hk
  rw [if_neg z2]
  by_cases z3 : xs i &&& 31 = 3
  · rw [if_pos z3]
    exact lw_197 hL hi hR hk
  rw [if_neg z3]
  by_cases z4 : xs i &&& 31 = 4
  · rw [if_pos z4]
    exact lw_210 hL hi hR hk
  rw [if_neg z4]
  by_cases z5 : xs i &&& 31 = 5
  · rw [if_pos z5]
    exact lw_243 hL hi hR hk
  rw [if_neg z5]
  by_cases z6 : xs i &&& 31 = 6
  · rw [if_pos z6]
    exact lw_276 hL hi hR hk
  rw [if_neg z6]
  by_cases z7 : xs i &&& 31 = 7
  · rw [if_pos z7]
    exact lw_289 hL hi hR hk
  rw [if_neg z7]
  by_cases z8 : xs i &&& 31 = 8
  · rw [if_pos z8]
    exact lw_332 hL hi hR hk
  rw [if_neg z8]
  by_cases z9 : xs i &&& 31 = 9
  · rw [if_pos z9]
    exact lw_355 hL hi hR hk
  rw [if_neg z9]
  by_cases z10 : xs i &&& 31 = 10
  · rw [if_pos z10]
    exact lw_378 hL hi hR hk
  rw [if_neg z10]
  by_cases z11 : xs i &&& 31 = 11
  · rw [if_pos z11]
    exact lw_391 hL hi hR hk
  rw [if_neg z11]
  by_cases z12 : xs i &&& 31 = 12
  · rw [if_pos z12]
    exact lw_440 hL hi hR hk
  rw [if_neg z12]
  by_cases z13 : xs i &&& 31 = 13
  · rw [if_pos z13]
    exact lw_489 hL hi hR hk
  rw [if_neg z13]
  by_cases z14 : xs i &&& 31 = 14
  · rw [if_pos z14]
    exact lw_512 hL hi hR hk
  rw [if_neg z14]
  by_cases z15 : xs i &&& 31 = 15
  · rw [if_pos z15]
    exact lw_561 hL hi hR hk
  rw [if_neg z15]
  by_cases z16 : xs i &&& 31 = 16
  · rw [if_pos z16]
    exact lw_620 hL hi hR hk
  rw [if_neg z16]
  by_cases z17 : xs i &&& 31 = 17
  · rw [if_pos z17]
    exact lw_653 hL hi hR hk
  rw [if_neg z17]
  by_cases z18 : xs i &&& 31 = 18
  · rw [if_pos z18]
    exact lw_702 hL hi hR hk
  rw [if_neg z18]
  by_cases z19 : xs i &&& 31 = 19
  · rw [if_pos z19]
    exact lw_725 hL hi hR hk
  rw [if_neg z19]
  by_cases z20 : xs i &&& 31 = 20
  · rw [if_pos z20]
    exact lw_784 hL hi hR hk
  rw [if_neg z20]
  by_cases z21 : xs i &&& 31 = 21
  · rw [if_pos z21]
    exact lw_838 hL hi hR hk
  rw [if_neg z21]
  by_cases z22 : xs i &&& 31 = 22
  · rw [if_pos z22]
    exact lw_861 hL hi hR hk
  rw [if_neg z22]
  by_cases z23 : xs i &&& 31 = 23
  · rw [if_pos z23]
    exact lw_884 hL hi hR hk
  rw [if_neg z23]
  by_cases z24 : xs i &&& 31 = 24
  · rw [if_pos z24]
    exact lw_907 hL hi hR hk
  rw [if_neg z24]
  have t4 : nI i + 4 = nI (i + 4) := nI_add i 4
  rw [t4]
  exact hk hR
