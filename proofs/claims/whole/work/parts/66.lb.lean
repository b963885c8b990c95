section
variable {b L cl sl : Nat} {xs : Nat → Int32}
set_option maxRecDepth 100000 in
set_option maxHeartbeats 4000000 in
theorem law_case {i : Nat} {h : List va_E} (hi : i + 6 ≤ L) (hL : L ≤ 3072) (hcl : cl ≤ 600000) (hsl : sl ≤ 7302250) (I : INV h) (k : ∀ h, INV h → AG (XL b L xs) cl sl 1121 [some (.ref 1000), some (.ref 0), some (.ref 125), some (.int (iN i))] [] h) {v : Int32} {n : Nat} (hn : n < 32) (hv : v = iN n) : AG (XL b L xs) cl sl 33 [some (.ref 1000), some (.ref 0), some (.ref 125), some (.int (iN i))] [.int v] h := by
  subst hv
  refine I _ (fun now_people_ now_gates_ now_hour_ now_texts_ now_ruling_ now_x_ saved_people_ saved_gates_ saved_hour_ saved_texts_ saved_ruling_ saved_x_ reader_length_ reader_tokens_ reader_hasRead_ reader_fault_ reader_place_ reader_at_ reader_kind_ reader_allowedNames_ odds_who_ odds_name_ odds_upper_ odds_lower_ book_count_ search_size_ crowd_gate_ crowd_who_ crowd_name_ now_born_ now_lot_ now_paid_ now_done_ now_deeds_size_ now_row_size_ now_book_size_ saved_born_ saved_lot_ saved_paid_ saved_done_ saved_deeds_size_ saved_row_size_ saved_book_size_ laws_codeLength_ laws_size_ laws_take_ laws_fee_ reader_bytes_ reader_kinds_ reader_starts_ reader_numbers_ reader_draft_codeLength_ reader_draft_size_ reader_draft_take_ reader_draft_fee_ book_places_ book_parts_ search_wanted_ search_states_ search_origins_ search_table_ now_town_names_ now_town_sizes_ now_town_heaps_ now_deeds_cells_ now_row_cells_ now_book_cells_ saved_town_names_ saved_town_sizes_ saved_town_heaps_ saved_deeds_cells_ saved_row_cells_ saved_book_cells_ laws_code_ laws_kinds_ laws_from_ laws_to_ reader_draft_code_ reader_draft_kinds_ reader_draft_from_ reader_draft_to_ goings_sums_values_ goings_sums_stack_ goings_tried_names_ goings_tried_sizes_ goings_tried_heaps_ odds_town_names_ odds_town_sizes_ odds_town_heaps_ book_town_names_ book_town_sizes_ book_town_heaps_ search_town_names_ search_town_sizes_ search_town_heaps_ crowd_town_names_ crowd_town_sizes_ crowd_town_heaps_ Mb_ Mtaped_ Mfault_ MfaultPlace_ Mat_ Mplace_ Mtoken_ Mnumber_ Mword_ Mtext0_ Mclauses_ Mwritten_ Mcame_ Mpiled_ Mopens_ MisWhole_ Msort0_ Monce_ Mupper_ Munder_ MwayMany_ MstateMany_ Ma_ Mimage_ Md_ Mtexts_ Mtape_ Mpile_ Mnamed_ Mvalues_ Mtruth_ Mlots_ Mshares_ Mtried_ Mmays_ Mparts_ Mstates_ McamesFrom_ McameBy_ Mchain_ Mchains_ Mpath_ Morder_ e R => ?_)
  subst e
  match n, hn with
  | 0, _ => exact AL.ts (off := 143) (tgt := 176) dl_33 (by decide +kernel) (by decide +kernel) (by decide +kernel) (by decide) (K_person hi hL hcl hsl R k)
  | 1, _ => exact AL.ts (off := 182) (tgt := 215) dl_33 (by decide +kernel) (by decide +kernel) (by decide +kernel) (by decide) (K_gate hi hL hcl hsl R k)
  | 2, _ => exact AL.ts (off := 221) (tgt := 254) dl_33 (by decide +kernel) (by decide +kernel) (by decide +kernel) (by decide) (K_hour hi hL hcl hsl R k)
  | 3, _ => exact AL.ts (off := 244) (tgt := 277) dl_33 (by decide +kernel) (by decide +kernel) (by decide +kernel) (by decide) (K_feed hi hL hcl hsl R k)
  | 4, _ => exact AL.ts (off := 307) (tgt := 340) dl_33 (by decide +kernel) (by decide +kernel) (by decide +kernel) (by decide) (K_end hi hL hcl hsl R k)
  | 5, _ => exact AL.ts (off := 330) (tgt := 363) dl_33 (by decide +kernel) (by decide +kernel) (by decide +kernel) (by decide) (K_text hi hL hcl hsl R k)
  | 6, _ => exact AL.ts (off := 343) (tgt := 376) dl_33 (by decide +kernel) (by decide +kernel) (by decide +kernel) (by decide) (K_fault hi hL hcl hsl R k)
  | 7, _ => exact AL.ts (off := 366) (tgt := 399) dl_33 (by decide +kernel) (by decide +kernel) (by decide +kernel) (by decide) (K_by hi hL hcl hsl R k)
  | 8, _ => exact AL.ts (off := 389) (tgt := 422) dl_33 (by decide +kernel) (by decide +kernel) (by decide +kernel) (by decide) (K_gone hi hL hcl hsl R k)
  | 9, _ => exact AL.ts (off := 412) (tgt := 445) dl_33 (by decide +kernel) (by decide +kernel) (by decide +kernel) (by decide) (K_go hi hL hcl hsl R k)
  | 10, _ => exact AL.ts (off := 445) (tgt := 478) dl_33 (by decide +kernel) (by decide +kernel) (by decide +kernel) (by decide) (K_of hi hL hcl hsl R k)
  | 11, _ => exact AL.ts (off := 478) (tgt := 511) dl_33 (by decide +kernel) (by decide +kernel) (by decide +kernel) (by decide) (K_called hi hL hcl hsl R k)
  | 12, _ => exact AL.ts (off := 501) (tgt := 534) dl_33 (by decide +kernel) (by decide +kernel) (by decide +kernel) (by decide) (K_heap hi hL hcl hsl R k)
  | 13, _ => exact AL.ts (off := 534) (tgt := 567) dl_33 (by decide +kernel) (by decide +kernel) (by decide +kernel) (by decide) (K_deed hi hL hcl hsl R k)
  | 14, _ => exact AL.ts (off := 567) (tgt := 600) dl_33 (by decide +kernel) (by decide +kernel) (by decide +kernel) (by decide) (K_owes hi hL hcl hsl R k)
  | 15, _ => exact AL.ts (off := 590) (tgt := 623) dl_33 (by decide +kernel) (by decide +kernel) (by decide +kernel) (by decide) (K_row hi hL hcl hsl R k)
  | 16, _ => exact AL.ts (off := 623) (tgt := 656) dl_33 (by decide +kernel) (by decide +kernel) (by decide +kernel) (by decide) (K_judge hi hL hcl hsl R k)
  | 17, _ => exact AL.ts (off := 636) (tgt := 669) dl_33 (by decide +kernel) (by decide +kernel) (by decide +kernel) (by decide) (K_then hi hL hcl hsl R k)
  | 18, _ => exact AL.ts (off := 659) (tgt := 692) dl_33 (by decide +kernel) (by decide +kernel) (by decide +kernel) (by decide) (K_chance hi hL hcl hsl R k)
  | 19, _ => exact AL.ts (off := 703) (tgt := 736) dl_33 (by decide +kernel) (by decide +kernel) (by decide +kernel) (by decide) (K_line hi hL hcl hsl R k)
  | 20, _ => exact AL.ts (off := 762) (tgt := 795) dl_33 (by decide +kernel) (by decide +kernel) (by decide +kernel) (by decide) (K_ways hi hL hcl hsl R k)
  | 21, _ => exact AL.ts (off := 775) (tgt := 808) dl_33 (by decide +kernel) (by decide +kernel) (by decide +kernel) (by decide) (K_may hi hL hcl hsl R k)
  | 22, _ => exact AL.ts (off := 798) (tgt := 831) dl_33 (by decide +kernel) (by decide +kernel) (by decide +kernel) (by decide) (K_ask hi hL hcl hsl R k)
  | 23, _ => exact AL.ts (off := 821) (tgt := 854) dl_33 (by decide +kernel) (by decide +kernel) (by decide +kernel) (by decide) (K_fewest hi hL hcl hsl R k)
  | 24, _ => exact AL.ts (off := 884) (tgt := 917) dl_33 (by decide +kernel) (by decide +kernel) (by decide +kernel) (by decide) (K_third hi hL hcl hsl R k)
  | 25, _ => exact AL.ts (off := 917) (tgt := 950) dl_33 (by decide +kernel) (by decide +kernel) (by decide +kernel) (by decide) (K_left hi hL hcl hsl R k)
  | 26, _ => exact AL.ts (off := 960) (tgt := 993) dl_33 (by decide +kernel) (by decide +kernel) (by decide +kernel) (by decide) (K_thief hi hL hcl hsl R k)
  | 27, _ => exact AL.ts (off := 993) (tgt := 1026) dl_33 (by decide +kernel) (by decide +kernel) (by decide +kernel) (by decide) (K_seed hi hL hcl hsl R k)
  | 28, _ => exact AL.ts (off := 1016) (tgt := 1049) dl_33 (by decide +kernel) (by decide +kernel) (by decide +kernel) (by decide) (K_days hi hL hcl hsl R k)
  | 29, _ => exact AL.ts (off := 1039) (tgt := 1072) dl_33 (by decide +kernel) (by decide +kernel) (by decide +kernel) (by decide) (K_image hi hL hcl hsl R k)
  | 30, _ => exact AL.ts (off := 1052) (tgt := 1085) dl_33 (by decide +kernel) (by decide +kernel) (by decide +kernel) (by decide) (K_back hi hL hcl hsl R k)
  | 31, _ => exact AL.ts (off := 1065) (tgt := 1098) dl_33 (by decide +kernel) (by decide +kernel) (by decide +kernel) (by decide) (K_about hi hL hcl hsl R k)
  | n + 32, hn => exact absurd hn (Nat.not_lt.mpr (Nat.le_add_left 32 n))
end
