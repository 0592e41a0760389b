/-! the law's world: addresses, contents, cells -/
abbrev CA : Type := Nat × Nat × Nat × Nat × Nat × Nat × Nat × Nat × Nat × Nat × Nat × Nat × Nat × Nat × Nat × Nat × Nat × Nat × Nat × Nat × Nat × Nat × Nat × Nat × Nat × Nat × Nat × Nat × Nat × Nat × Nat × Nat × Nat × Nat × Nat × Nat × (Nat → Nat)
def CA.mk (h_this : Nat) (h_use : Nat) (h_use_counts : Nat) (h_use_words : Nat) (h_use_settings : Nat) (h_tape : Nat) (h_reader : Nat) (h_reader_open : Nat) (h_reader_seen : Nat) (h_tree : Nat) (h_tree_sizes : Nat) (h_tree_above : Nat) (h_tree_placeAbove : Nat) (h_tree_items : Nat) (h_tree_home : Nat) (h_tree_placeHome : Nat) (h_tree_tally : Nat) (h_draft : Nat) (h_draft_sizes : Nat) (h_draft_above : Nat) (h_draft_placeAbove : Nat) (h_draft_items : Nat) (h_draft_home : Nat) (h_draft_placeHome : Nat) (h_draft_tally : Nat) (h_page : Nat) (h_page_bytes : Nat) (h_exchanges : Nat) (h_exchanges_sums : Nat) (h_exchanges_lengths : Nat) (h_exchanges_rows : Nat) (h_exchanges_lower : Nat) (h_exchanges_upper : Nat) (h_exchanges_counts : Nat) (h_exchanges_steps : Nat) (h_exchanges_row : Nat) (r_exchanges_rows : Nat → Nat) : CA := (h_this, h_use, h_use_counts, h_use_words, h_use_settings, h_tape, h_reader, h_reader_open, h_reader_seen, h_tree, h_tree_sizes, h_tree_above, h_tree_placeAbove, h_tree_items, h_tree_home, h_tree_placeHome, h_tree_tally, h_draft, h_draft_sizes, h_draft_above, h_draft_placeAbove, h_draft_items, h_draft_home, h_draft_placeHome, h_draft_tally, h_page, h_page_bytes, h_exchanges, h_exchanges_sums, h_exchanges_lengths, h_exchanges_rows, h_exchanges_lower, h_exchanges_upper, h_exchanges_counts, h_exchanges_steps, h_exchanges_row, r_exchanges_rows)
def CA.h_this (x : CA) : Nat := x.1
def CA.h_use (x : CA) : Nat := x.2.1
def CA.h_use_counts (x : CA) : Nat := x.2.2.1
def CA.h_use_words (x : CA) : Nat := x.2.2.2.1
def CA.h_use_settings (x : CA) : Nat := x.2.2.2.2.1
def CA.h_tape (x : CA) : Nat := x.2.2.2.2.2.1
def CA.h_reader (x : CA) : Nat := x.2.2.2.2.2.2.1
def CA.h_reader_open (x : CA) : Nat := x.2.2.2.2.2.2.2.1
def CA.h_reader_seen (x : CA) : Nat := x.2.2.2.2.2.2.2.2.1
def CA.h_tree (x : CA) : Nat := x.2.2.2.2.2.2.2.2.2.1
def CA.h_tree_sizes (x : CA) : Nat := x.2.2.2.2.2.2.2.2.2.2.1
def CA.h_tree_above (x : CA) : Nat := x.2.2.2.2.2.2.2.2.2.2.2.1
def CA.h_tree_placeAbove (x : CA) : Nat := x.2.2.2.2.2.2.2.2.2.2.2.2.1
def CA.h_tree_items (x : CA) : Nat := x.2.2.2.2.2.2.2.2.2.2.2.2.2.1
def CA.h_tree_home (x : CA) : Nat := x.2.2.2.2.2.2.2.2.2.2.2.2.2.2.1
def CA.h_tree_placeHome (x : CA) : Nat := x.2.2.2.2.2.2.2.2.2.2.2.2.2.2.2.1
def CA.h_tree_tally (x : CA) : Nat := x.2.2.2.2.2.2.2.2.2.2.2.2.2.2.2.2.1
def CA.h_draft (x : CA) : Nat := x.2.2.2.2.2.2.2.2.2.2.2.2.2.2.2.2.2.1
def CA.h_draft_sizes (x : CA) : Nat := x.2.2.2.2.2.2.2.2.2.2.2.2.2.2.2.2.2.2.1
def CA.h_draft_above (x : CA) : Nat := x.2.2.2.2.2.2.2.2.2.2.2.2.2.2.2.2.2.2.2.1
def CA.h_draft_placeAbove (x : CA) : Nat := x.2.2.2.2.2.2.2.2.2.2.2.2.2.2.2.2.2.2.2.2.1
def CA.h_draft_items (x : CA) : Nat := x.2.2.2.2.2.2.2.2.2.2.2.2.2.2.2.2.2.2.2.2.2.1
def CA.h_draft_home (x : CA) : Nat := x.2.2.2.2.2.2.2.2.2.2.2.2.2.2.2.2.2.2.2.2.2.2.1
def CA.h_draft_placeHome (x : CA) : Nat := x.2.2.2.2.2.2.2.2.2.2.2.2.2.2.2.2.2.2.2.2.2.2.2.1
def CA.h_draft_tally (x : CA) : Nat := x.2.2.2.2.2.2.2.2.2.2.2.2.2.2.2.2.2.2.2.2.2.2.2.2.1
def CA.h_page (x : CA) : Nat := x.2.2.2.2.2.2.2.2.2.2.2.2.2.2.2.2.2.2.2.2.2.2.2.2.2.1
def CA.h_page_bytes (x : CA) : Nat := x.2.2.2.2.2.2.2.2.2.2.2.2.2.2.2.2.2.2.2.2.2.2.2.2.2.2.1
def CA.h_exchanges (x : CA) : Nat := x.2.2.2.2.2.2.2.2.2.2.2.2.2.2.2.2.2.2.2.2.2.2.2.2.2.2.2.1
def CA.h_exchanges_sums (x : CA) : Nat := x.2.2.2.2.2.2.2.2.2.2.2.2.2.2.2.2.2.2.2.2.2.2.2.2.2.2.2.2.1
def CA.h_exchanges_lengths (x : CA) : Nat := x.2.2.2.2.2.2.2.2.2.2.2.2.2.2.2.2.2.2.2.2.2.2.2.2.2.2.2.2.2.1
def CA.h_exchanges_rows (x : CA) : Nat := x.2.2.2.2.2.2.2.2.2.2.2.2.2.2.2.2.2.2.2.2.2.2.2.2.2.2.2.2.2.2.1
def CA.h_exchanges_lower (x : CA) : Nat := x.2.2.2.2.2.2.2.2.2.2.2.2.2.2.2.2.2.2.2.2.2.2.2.2.2.2.2.2.2.2.2.1
def CA.h_exchanges_upper (x : CA) : Nat := x.2.2.2.2.2.2.2.2.2.2.2.2.2.2.2.2.2.2.2.2.2.2.2.2.2.2.2.2.2.2.2.2.1
def CA.h_exchanges_counts (x : CA) : Nat := x.2.2.2.2.2.2.2.2.2.2.2.2.2.2.2.2.2.2.2.2.2.2.2.2.2.2.2.2.2.2.2.2.2.1
def CA.h_exchanges_steps (x : CA) : Nat := x.2.2.2.2.2.2.2.2.2.2.2.2.2.2.2.2.2.2.2.2.2.2.2.2.2.2.2.2.2.2.2.2.2.2.1
def CA.h_exchanges_row (x : CA) : Nat := x.2.2.2.2.2.2.2.2.2.2.2.2.2.2.2.2.2.2.2.2.2.2.2.2.2.2.2.2.2.2.2.2.2.2.2.1
def CA.r_exchanges_rows (x : CA) : Nat → Nat := x.2.2.2.2.2.2.2.2.2.2.2.2.2.2.2.2.2.2.2.2.2.2.2.2.2.2.2.2.2.2.2.2.2.2.2.2
abbrev CZ : Type := Int32 × Int32 × Int32 × Int64 × Int32 × Int32 × (Nat → Int32) × (Nat → Int32) × (Nat → Int32) × (Nat → Int32) × Int32 × Int32 × Int32 × Int32 × (Nat → Int32) × (Nat → Int32) × Int32 × (Nat → Int32) × (Nat → Int32) × (Nat → Int32) × (Nat → Int32) × (Nat → Int32) × (Nat → Int32) × (Nat → Int32) × Int32 × (Nat → Int32) × (Nat → Int32) × (Nat → Int32) × (Nat → Int32) × (Nat → Int32) × (Nat → Int32) × (Nat → Int32) × Int32 × (Nat → Int32) × Int32 × Int32 × Int64 × (Nat → Int64) × (Nat → Int32) × (Nat → Nat → Int32) × (Nat → Int32) × (Nat → Int32) × (Nat → Int64) × (Nat → Int64) × (Nat → Int32)
def CZ.mk (f_taped : Int32) (f_faultPlace : Int32) (f_spansKnown : Int32) (f_freeCost : Int64) (f_freeKnown : Int32) (f_use_size : Int32) (g_use_counts : Nat → Int32) (g_use_words : Nat → Int32) (g_use_settings : Nat → Int32) (g_tape : Nat → Int32) (f_reader_faultNumber : Int32) (f_reader_faultPlace : Int32) (f_reader_depth : Int32) (f_reader_seenCount : Int32) (g_reader_open : Nat → Int32) (g_reader_seen : Nat → Int32) (f_tree_lists : Int32) (g_tree_sizes : Nat → Int32) (g_tree_above : Nat → Int32) (g_tree_placeAbove : Nat → Int32) (g_tree_items : Nat → Int32) (g_tree_home : Nat → Int32) (g_tree_placeHome : Nat → Int32) (g_tree_tally : Nat → Int32) (f_draft_lists : Int32) (g_draft_sizes : Nat → Int32) (g_draft_above : Nat → Int32) (g_draft_placeAbove : Nat → Int32) (g_draft_items : Nat → Int32) (g_draft_home : Nat → Int32) (g_draft_placeHome : Nat → Int32) (g_draft_tally : Nat → Int32) (f_page_length : Int32) (g_page_bytes : Nat → Int32) (f_exchanges_reckoned : Int32) (f_exchanges_pairs : Int32) (f_exchanges_unlearn : Int64) (g_exchanges_sums : Nat → Int64) (g_exchanges_lengths : Nat → Int32) (g_exchanges_rows : Nat → Nat → Int32) (g_exchanges_lower : Nat → Int32) (g_exchanges_upper : Nat → Int32) (g_exchanges_counts : Nat → Int64) (g_exchanges_steps : Nat → Int64) (g_exchanges_row : Nat → Int32) : CZ := (f_taped, f_faultPlace, f_spansKnown, f_freeCost, f_freeKnown, f_use_size, g_use_counts, g_use_words, g_use_settings, g_tape, f_reader_faultNumber, f_reader_faultPlace, f_reader_depth, f_reader_seenCount, g_reader_open, g_reader_seen, f_tree_lists, g_tree_sizes, g_tree_above, g_tree_placeAbove, g_tree_items, g_tree_home, g_tree_placeHome, g_tree_tally, f_draft_lists, g_draft_sizes, g_draft_above, g_draft_placeAbove, g_draft_items, g_draft_home, g_draft_placeHome, g_draft_tally, f_page_length, g_page_bytes, f_exchanges_reckoned, f_exchanges_pairs, f_exchanges_unlearn, g_exchanges_sums, g_exchanges_lengths, g_exchanges_rows, g_exchanges_lower, g_exchanges_upper, g_exchanges_counts, g_exchanges_steps, g_exchanges_row)
def CZ.f_taped (x : CZ) : Int32 := x.1
def CZ.f_faultPlace (x : CZ) : Int32 := x.2.1
def CZ.f_spansKnown (x : CZ) : Int32 := x.2.2.1
def CZ.f_freeCost (x : CZ) : Int64 := x.2.2.2.1
def CZ.f_freeKnown (x : CZ) : Int32 := x.2.2.2.2.1
def CZ.f_use_size (x : CZ) : Int32 := x.2.2.2.2.2.1
def CZ.g_use_counts (x : CZ) : Nat → Int32 := x.2.2.2.2.2.2.1
def CZ.g_use_words (x : CZ) : Nat → Int32 := x.2.2.2.2.2.2.2.1
def CZ.g_use_settings (x : CZ) : Nat → Int32 := x.2.2.2.2.2.2.2.2.1
def CZ.g_tape (x : CZ) : Nat → Int32 := x.2.2.2.2.2.2.2.2.2.1
def CZ.f_reader_faultNumber (x : CZ) : Int32 := x.2.2.2.2.2.2.2.2.2.2.1
def CZ.f_reader_faultPlace (x : CZ) : Int32 := x.2.2.2.2.2.2.2.2.2.2.2.1
def CZ.f_reader_depth (x : CZ) : Int32 := x.2.2.2.2.2.2.2.2.2.2.2.2.1
def CZ.f_reader_seenCount (x : CZ) : Int32 := x.2.2.2.2.2.2.2.2.2.2.2.2.2.1
def CZ.g_reader_open (x : CZ) : Nat → Int32 := x.2.2.2.2.2.2.2.2.2.2.2.2.2.2.1
def CZ.g_reader_seen (x : CZ) : Nat → Int32 := x.2.2.2.2.2.2.2.2.2.2.2.2.2.2.2.1
def CZ.f_tree_lists (x : CZ) : Int32 := x.2.2.2.2.2.2.2.2.2.2.2.2.2.2.2.2.1
def CZ.g_tree_sizes (x : CZ) : Nat → Int32 := x.2.2.2.2.2.2.2.2.2.2.2.2.2.2.2.2.2.1
def CZ.g_tree_above (x : CZ) : Nat → Int32 := x.2.2.2.2.2.2.2.2.2.2.2.2.2.2.2.2.2.2.1
def CZ.g_tree_placeAbove (x : CZ) : Nat → Int32 := x.2.2.2.2.2.2.2.2.2.2.2.2.2.2.2.2.2.2.2.1
def CZ.g_tree_items (x : CZ) : Nat → Int32 := x.2.2.2.2.2.2.2.2.2.2.2.2.2.2.2.2.2.2.2.2.1
def CZ.g_tree_home (x : CZ) : Nat → Int32 := x.2.2.2.2.2.2.2.2.2.2.2.2.2.2.2.2.2.2.2.2.2.1
def CZ.g_tree_placeHome (x : CZ) : Nat → Int32 := x.2.2.2.2.2.2.2.2.2.2.2.2.2.2.2.2.2.2.2.2.2.2.1
def CZ.g_tree_tally (x : CZ) : Nat → Int32 := x.2.2.2.2.2.2.2.2.2.2.2.2.2.2.2.2.2.2.2.2.2.2.2.1
def CZ.f_draft_lists (x : CZ) : Int32 := x.2.2.2.2.2.2.2.2.2.2.2.2.2.2.2.2.2.2.2.2.2.2.2.2.1
def CZ.g_draft_sizes (x : CZ) : Nat → Int32 := x.2.2.2.2.2.2.2.2.2.2.2.2.2.2.2.2.2.2.2.2.2.2.2.2.2.1
def CZ.g_draft_above (x : CZ) : Nat → Int32 := x.2.2.2.2.2.2.2.2.2.2.2.2.2.2.2.2.2.2.2.2.2.2.2.2.2.2.1
def CZ.g_draft_placeAbove (x : CZ) : Nat → Int32 := x.2.2.2.2.2.2.2.2.2.2.2.2.2.2.2.2.2.2.2.2.2.2.2.2.2.2.2.1
def CZ.g_draft_items (x : CZ) : Nat → Int32 := x.2.2.2.2.2.2.2.2.2.2.2.2.2.2.2.2.2.2.2.2.2.2.2.2.2.2.2.2.1
def CZ.g_draft_home (x : CZ) : Nat → Int32 := x.2.2.2.2.2.2.2.2.2.2.2.2.2.2.2.2.2.2.2.2.2.2.2.2.2.2.2.2.2.1
def CZ.g_draft_placeHome (x : CZ) : Nat → Int32 := x.2.2.2.2.2.2.2.2.2.2.2.2.2.2.2.2.2.2.2.2.2.2.2.2.2.2.2.2.2.2.1
def CZ.g_draft_tally (x : CZ) : Nat → Int32 := x.2.2.2.2.2.2.2.2.2.2.2.2.2.2.2.2.2.2.2.2.2.2.2.2.2.2.2.2.2.2.2.1
def CZ.f_page_length (x : CZ) : Int32 := x.2.2.2.2.2.2.2.2.2.2.2.2.2.2.2.2.2.2.2.2.2.2.2.2.2.2.2.2.2.2.2.2.1
def CZ.g_page_bytes (x : CZ) : Nat → Int32 := x.2.2.2.2.2.2.2.2.2.2.2.2.2.2.2.2.2.2.2.2.2.2.2.2.2.2.2.2.2.2.2.2.2.1
def CZ.f_exchanges_reckoned (x : CZ) : Int32 := x.2.2.2.2.2.2.2.2.2.2.2.2.2.2.2.2.2.2.2.2.2.2.2.2.2.2.2.2.2.2.2.2.2.2.1
def CZ.f_exchanges_pairs (x : CZ) : Int32 := x.2.2.2.2.2.2.2.2.2.2.2.2.2.2.2.2.2.2.2.2.2.2.2.2.2.2.2.2.2.2.2.2.2.2.2.1
def CZ.f_exchanges_unlearn (x : CZ) : Int64 := x.2.2.2.2.2.2.2.2.2.2.2.2.2.2.2.2.2.2.2.2.2.2.2.2.2.2.2.2.2.2.2.2.2.2.2.2.1
def CZ.g_exchanges_sums (x : CZ) : Nat → Int64 := x.2.2.2.2.2.2.2.2.2.2.2.2.2.2.2.2.2.2.2.2.2.2.2.2.2.2.2.2.2.2.2.2.2.2.2.2.2.1
def CZ.g_exchanges_lengths (x : CZ) : Nat → Int32 := x.2.2.2.2.2.2.2.2.2.2.2.2.2.2.2.2.2.2.2.2.2.2.2.2.2.2.2.2.2.2.2.2.2.2.2.2.2.2.1
def CZ.g_exchanges_rows (x : CZ) : Nat → Nat → Int32 := x.2.2.2.2.2.2.2.2.2.2.2.2.2.2.2.2.2.2.2.2.2.2.2.2.2.2.2.2.2.2.2.2.2.2.2.2.2.2.2.1
def CZ.g_exchanges_lower (x : CZ) : Nat → Int32 := x.2.2.2.2.2.2.2.2.2.2.2.2.2.2.2.2.2.2.2.2.2.2.2.2.2.2.2.2.2.2.2.2.2.2.2.2.2.2.2.2.1
def CZ.g_exchanges_upper (x : CZ) : Nat → Int32 := x.2.2.2.2.2.2.2.2.2.2.2.2.2.2.2.2.2.2.2.2.2.2.2.2.2.2.2.2.2.2.2.2.2.2.2.2.2.2.2.2.2.1
def CZ.g_exchanges_counts (x : CZ) : Nat → Int64 := x.2.2.2.2.2.2.2.2.2.2.2.2.2.2.2.2.2.2.2.2.2.2.2.2.2.2.2.2.2.2.2.2.2.2.2.2.2.2.2.2.2.2.1
def CZ.g_exchanges_steps (x : CZ) : Nat → Int64 := x.2.2.2.2.2.2.2.2.2.2.2.2.2.2.2.2.2.2.2.2.2.2.2.2.2.2.2.2.2.2.2.2.2.2.2.2.2.2.2.2.2.2.2.1
def CZ.g_exchanges_row (x : CZ) : Nat → Int32 := x.2.2.2.2.2.2.2.2.2.2.2.2.2.2.2.2.2.2.2.2.2.2.2.2.2.2.2.2.2.2.2.2.2.2.2.2.2.2.2.2.2.2.2.2
abbrev RA : Type := Nat × Nat × Nat × Nat × Nat × Nat × Nat × Nat × Nat × Nat × Nat × Nat × Nat × Nat × Nat × Nat × Nat × Nat × Nat × Nat × Nat × Nat × Nat × Nat × Nat
def RA.mk (h_this : Nat) (h_counts : Nat) (h_words : Nat) (h_tape : Nat) (h_page : Nat) (h_items : Nat) (h_many : Nat) (h_newItems : Nat) (h_newMany : Nat) (h_has : Nat) (h_open : Nat) (h_wayList : Nat) (h_wayPlace : Nat) (h_bits : Nat) (h_least : Nat) (h_menus : Nat) (h_firsts : Nat) (h_weights : Nat) (h_free : Nat) (h_setWeights : Nat) (h_stepsAt : Nat) (h_pairOne : Nat) (h_pairOther : Nat) (h_row : Nat) (h_best : Nat) : RA := (h_this, h_counts, h_words, h_tape, h_page, h_items, h_many, h_newItems, h_newMany, h_has, h_open, h_wayList, h_wayPlace, h_bits, h_least, h_menus, h_firsts, h_weights, h_free, h_setWeights, h_stepsAt, h_pairOne, h_pairOther, h_row, h_best)
def RA.h_this (x : RA) : Nat := x.1
def RA.h_counts (x : RA) : Nat := x.2.1
def RA.h_words (x : RA) : Nat := x.2.2.1
def RA.h_tape (x : RA) : Nat := x.2.2.2.1
def RA.h_page (x : RA) : Nat := x.2.2.2.2.1
def RA.h_items (x : RA) : Nat := x.2.2.2.2.2.1
def RA.h_many (x : RA) : Nat := x.2.2.2.2.2.2.1
def RA.h_newItems (x : RA) : Nat := x.2.2.2.2.2.2.2.1
def RA.h_newMany (x : RA) : Nat := x.2.2.2.2.2.2.2.2.1
def RA.h_has (x : RA) : Nat := x.2.2.2.2.2.2.2.2.2.1
def RA.h_open (x : RA) : Nat := x.2.2.2.2.2.2.2.2.2.2.1
def RA.h_wayList (x : RA) : Nat := x.2.2.2.2.2.2.2.2.2.2.2.1
def RA.h_wayPlace (x : RA) : Nat := x.2.2.2.2.2.2.2.2.2.2.2.2.1
def RA.h_bits (x : RA) : Nat := x.2.2.2.2.2.2.2.2.2.2.2.2.2.1
def RA.h_least (x : RA) : Nat := x.2.2.2.2.2.2.2.2.2.2.2.2.2.2.1
def RA.h_menus (x : RA) : Nat := x.2.2.2.2.2.2.2.2.2.2.2.2.2.2.2.1
def RA.h_firsts (x : RA) : Nat := x.2.2.2.2.2.2.2.2.2.2.2.2.2.2.2.2.1
def RA.h_weights (x : RA) : Nat := x.2.2.2.2.2.2.2.2.2.2.2.2.2.2.2.2.2.1
def RA.h_free (x : RA) : Nat := x.2.2.2.2.2.2.2.2.2.2.2.2.2.2.2.2.2.2.1
def RA.h_setWeights (x : RA) : Nat := x.2.2.2.2.2.2.2.2.2.2.2.2.2.2.2.2.2.2.2.1
def RA.h_stepsAt (x : RA) : Nat := x.2.2.2.2.2.2.2.2.2.2.2.2.2.2.2.2.2.2.2.2.1
def RA.h_pairOne (x : RA) : Nat := x.2.2.2.2.2.2.2.2.2.2.2.2.2.2.2.2.2.2.2.2.2.1
def RA.h_pairOther (x : RA) : Nat := x.2.2.2.2.2.2.2.2.2.2.2.2.2.2.2.2.2.2.2.2.2.2.1
def RA.h_row (x : RA) : Nat := x.2.2.2.2.2.2.2.2.2.2.2.2.2.2.2.2.2.2.2.2.2.2.2.1
def RA.h_best (x : RA) : Nat := x.2.2.2.2.2.2.2.2.2.2.2.2.2.2.2.2.2.2.2.2.2.2.2.2
abbrev RZ : Type := Int32 × Int32 × Int32 × Int32 × Int32 × Int32 × Int32 × Int32 × Int32 × Int32 × Int32 × Int32 × Int32 × Int32 × Int32 × Int32 × Int32 × Int64 × (Nat → Int32) × (Nat → Int32) × (Nat → Int32) × (Nat → Int32) × (Nat → Int32) × (Nat → Int32) × (Nat → Int32) × (Nat → Int32) × (Nat → Int32) × (Nat → Int32) × (Nat → Int32) × (Nat → Int32) × (Nat → Int32) × (Nat → Int64) × (Nat → Int32) × (Nat → Int32) × (Nat → Int64) × (Nat → Int64) × (Nat → Int64) × (Nat → Int32) × (Nat → Int32) × (Nat → Int32) × (Nat → Int32) × (Nat → Int32)
def RZ.mk (f_thrown : Int32) (f_commands : Int32) (f_look : Int32) (f_down : Int32) (f_breadth : Int32) (f_unlearn : Int32) (f_taped : Int32) (f_size : Int32) (f_paged : Int32) (f_lists : Int32) (f_newLists : Int32) (f_at : Int32) (f_fault : Int32) (f_place : Int32) (f_ways : Int32) (f_pairs : Int32) (f_bestMany : Int32) (f_bestSum : Int64) (g_counts : Nat → Int32) (g_words : Nat → Int32) (g_tape : Nat → Int32) (g_page : Nat → Int32) (g_items : Nat → Int32) (g_many : Nat → Int32) (g_newItems : Nat → Int32) (g_newMany : Nat → Int32) (g_has : Nat → Int32) (g_open : Nat → Int32) (g_wayList : Nat → Int32) (g_wayPlace : Nat → Int32) (g_bits : Nat → Int32) (g_least : Nat → Int64) (g_menus : Nat → Int32) (g_firsts : Nat → Int32) (g_weights : Nat → Int64) (g_free : Nat → Int64) (g_setWeights : Nat → Int64) (g_stepsAt : Nat → Int32) (g_pairOne : Nat → Int32) (g_pairOther : Nat → Int32) (g_row : Nat → Int32) (g_best : Nat → Int32) : RZ := (f_thrown, f_commands, f_look, f_down, f_breadth, f_unlearn, f_taped, f_size, f_paged, f_lists, f_newLists, f_at, f_fault, f_place, f_ways, f_pairs, f_bestMany, f_bestSum, g_counts, g_words, g_tape, g_page, g_items, g_many, g_newItems, g_newMany, g_has, g_open, g_wayList, g_wayPlace, g_bits, g_least, g_menus, g_firsts, g_weights, g_free, g_setWeights, g_stepsAt, g_pairOne, g_pairOther, g_row, g_best)
def RZ.f_thrown (x : RZ) : Int32 := x.1
def RZ.f_commands (x : RZ) : Int32 := x.2.1
def RZ.f_look (x : RZ) : Int32 := x.2.2.1
def RZ.f_down (x : RZ) : Int32 := x.2.2.2.1
def RZ.f_breadth (x : RZ) : Int32 := x.2.2.2.2.1
def RZ.f_unlearn (x : RZ) : Int32 := x.2.2.2.2.2.1
def RZ.f_taped (x : RZ) : Int32 := x.2.2.2.2.2.2.1
def RZ.f_size (x : RZ) : Int32 := x.2.2.2.2.2.2.2.1
def RZ.f_paged (x : RZ) : Int32 := x.2.2.2.2.2.2.2.2.1
def RZ.f_lists (x : RZ) : Int32 := x.2.2.2.2.2.2.2.2.2.1
def RZ.f_newLists (x : RZ) : Int32 := x.2.2.2.2.2.2.2.2.2.2.1
def RZ.f_at (x : RZ) : Int32 := x.2.2.2.2.2.2.2.2.2.2.2.1
def RZ.f_fault (x : RZ) : Int32 := x.2.2.2.2.2.2.2.2.2.2.2.2.1
def RZ.f_place (x : RZ) : Int32 := x.2.2.2.2.2.2.2.2.2.2.2.2.2.1
def RZ.f_ways (x : RZ) : Int32 := x.2.2.2.2.2.2.2.2.2.2.2.2.2.2.1
def RZ.f_pairs (x : RZ) : Int32 := x.2.2.2.2.2.2.2.2.2.2.2.2.2.2.2.1
def RZ.f_bestMany (x : RZ) : Int32 := x.2.2.2.2.2.2.2.2.2.2.2.2.2.2.2.2.1
def RZ.f_bestSum (x : RZ) : Int64 := x.2.2.2.2.2.2.2.2.2.2.2.2.2.2.2.2.2.1
def RZ.g_counts (x : RZ) : Nat → Int32 := x.2.2.2.2.2.2.2.2.2.2.2.2.2.2.2.2.2.2.1
def RZ.g_words (x : RZ) : Nat → Int32 := x.2.2.2.2.2.2.2.2.2.2.2.2.2.2.2.2.2.2.2.1
def RZ.g_tape (x : RZ) : Nat → Int32 := x.2.2.2.2.2.2.2.2.2.2.2.2.2.2.2.2.2.2.2.2.1
def RZ.g_page (x : RZ) : Nat → Int32 := x.2.2.2.2.2.2.2.2.2.2.2.2.2.2.2.2.2.2.2.2.2.1
def RZ.g_items (x : RZ) : Nat → Int32 := x.2.2.2.2.2.2.2.2.2.2.2.2.2.2.2.2.2.2.2.2.2.2.1
def RZ.g_many (x : RZ) : Nat → Int32 := x.2.2.2.2.2.2.2.2.2.2.2.2.2.2.2.2.2.2.2.2.2.2.2.1
def RZ.g_newItems (x : RZ) : Nat → Int32 := x.2.2.2.2.2.2.2.2.2.2.2.2.2.2.2.2.2.2.2.2.2.2.2.2.1
def RZ.g_newMany (x : RZ) : Nat → Int32 := x.2.2.2.2.2.2.2.2.2.2.2.2.2.2.2.2.2.2.2.2.2.2.2.2.2.1
def RZ.g_has (x : RZ) : Nat → Int32 := x.2.2.2.2.2.2.2.2.2.2.2.2.2.2.2.2.2.2.2.2.2.2.2.2.2.2.1
def RZ.g_open (x : RZ) : Nat → Int32 := x.2.2.2.2.2.2.2.2.2.2.2.2.2.2.2.2.2.2.2.2.2.2.2.2.2.2.2.1
def RZ.g_wayList (x : RZ) : Nat → Int32 := x.2.2.2.2.2.2.2.2.2.2.2.2.2.2.2.2.2.2.2.2.2.2.2.2.2.2.2.2.1
def RZ.g_wayPlace (x : RZ) : Nat → Int32 := x.2.2.2.2.2.2.2.2.2.2.2.2.2.2.2.2.2.2.2.2.2.2.2.2.2.2.2.2.2.1
def RZ.g_bits (x : RZ) : Nat → Int32 := x.2.2.2.2.2.2.2.2.2.2.2.2.2.2.2.2.2.2.2.2.2.2.2.2.2.2.2.2.2.2.1
def RZ.g_least (x : RZ) : Nat → Int64 := x.2.2.2.2.2.2.2.2.2.2.2.2.2.2.2.2.2.2.2.2.2.2.2.2.2.2.2.2.2.2.2.1
def RZ.g_menus (x : RZ) : Nat → Int32 := x.2.2.2.2.2.2.2.2.2.2.2.2.2.2.2.2.2.2.2.2.2.2.2.2.2.2.2.2.2.2.2.2.1
def RZ.g_firsts (x : RZ) : Nat → Int32 := x.2.2.2.2.2.2.2.2.2.2.2.2.2.2.2.2.2.2.2.2.2.2.2.2.2.2.2.2.2.2.2.2.2.1
def RZ.g_weights (x : RZ) : Nat → Int64 := x.2.2.2.2.2.2.2.2.2.2.2.2.2.2.2.2.2.2.2.2.2.2.2.2.2.2.2.2.2.2.2.2.2.2.1
def RZ.g_free (x : RZ) : Nat → Int64 := x.2.2.2.2.2.2.2.2.2.2.2.2.2.2.2.2.2.2.2.2.2.2.2.2.2.2.2.2.2.2.2.2.2.2.2.1
def RZ.g_setWeights (x : RZ) : Nat → Int64 := x.2.2.2.2.2.2.2.2.2.2.2.2.2.2.2.2.2.2.2.2.2.2.2.2.2.2.2.2.2.2.2.2.2.2.2.2.1
def RZ.g_stepsAt (x : RZ) : Nat → Int32 := x.2.2.2.2.2.2.2.2.2.2.2.2.2.2.2.2.2.2.2.2.2.2.2.2.2.2.2.2.2.2.2.2.2.2.2.2.2.1
def RZ.g_pairOne (x : RZ) : Nat → Int32 := x.2.2.2.2.2.2.2.2.2.2.2.2.2.2.2.2.2.2.2.2.2.2.2.2.2.2.2.2.2.2.2.2.2.2.2.2.2.2.1
def RZ.g_pairOther (x : RZ) : Nat → Int32 := x.2.2.2.2.2.2.2.2.2.2.2.2.2.2.2.2.2.2.2.2.2.2.2.2.2.2.2.2.2.2.2.2.2.2.2.2.2.2.2.1
def RZ.g_row (x : RZ) : Nat → Int32 := x.2.2.2.2.2.2.2.2.2.2.2.2.2.2.2.2.2.2.2.2.2.2.2.2.2.2.2.2.2.2.2.2.2.2.2.2.2.2.2.2.1
def RZ.g_best (x : RZ) : Nat → Int32 := x.2.2.2.2.2.2.2.2.2.2.2.2.2.2.2.2.2.2.2.2.2.2.2.2.2.2.2.2.2.2.2.2.2.2.2.2.2.2.2.2.2
abbrev SP : Type := Nat × Nat × Nat × Nat × Nat × Nat × (Nat → Nat) × (Nat → Int64) × (Nat → Int64) × (Nat → Int32) × (Nat → Int32) × (Nat → Nat → Int64)
def SP.mk (h_spans : Nat) (h_spans_before : Nat) (h_spans_asItem : Nat) (h_spans_asRest : Nat) (h_spans_listFrom : Nat) (h_spans_listTo : Nat) (r_spans_asRest : Nat → Nat) (g_spans_before : Nat → Int64) (g_spans_asItem : Nat → Int64) (g_spans_listFrom : Nat → Int32) (g_spans_listTo : Nat → Int32) (g_spans_asRest : Nat → Nat → Int64) : SP := (h_spans, h_spans_before, h_spans_asItem, h_spans_asRest, h_spans_listFrom, h_spans_listTo, r_spans_asRest, g_spans_before, g_spans_asItem, g_spans_listFrom, g_spans_listTo, g_spans_asRest)
def SP.h_spans (x : SP) : Nat := x.1
def SP.h_spans_before (x : SP) : Nat := x.2.1
def SP.h_spans_asItem (x : SP) : Nat := x.2.2.1
def SP.h_spans_asRest (x : SP) : Nat := x.2.2.2.1
def SP.h_spans_listFrom (x : SP) : Nat := x.2.2.2.2.1
def SP.h_spans_listTo (x : SP) : Nat := x.2.2.2.2.2.1
def SP.r_spans_asRest (x : SP) : Nat → Nat := x.2.2.2.2.2.2.1
def SP.g_spans_before (x : SP) : Nat → Int64 := x.2.2.2.2.2.2.2.1
def SP.g_spans_asItem (x : SP) : Nat → Int64 := x.2.2.2.2.2.2.2.2.1
def SP.g_spans_listFrom (x : SP) : Nat → Int32 := x.2.2.2.2.2.2.2.2.2.1
def SP.g_spans_listTo (x : SP) : Nat → Int32 := x.2.2.2.2.2.2.2.2.2.2.1
def SP.g_spans_asRest (x : SP) : Nat → Nat → Int64 := x.2.2.2.2.2.2.2.2.2.2.2
abbrev SU : Type := Nat × Nat × Nat × Nat × Nat × (Nat → Nat) × (Nat → Int64) × (Nat → Int64) × (Nat → Int64) × (Nat → Nat → Int64)
def SU.mk (h_subsets : Nat) (h_subsets_weight : Nat) (h_subsets_asItem : Nat) (h_subsets_asRest : Nat) (h_subsets_least : Nat) (r_subsets_asRest : Nat → Nat) (g_subsets_weight : Nat → Int64) (g_subsets_asItem : Nat → Int64) (g_subsets_least : Nat → Int64) (g_subsets_asRest : Nat → Nat → Int64) : SU := (h_subsets, h_subsets_weight, h_subsets_asItem, h_subsets_asRest, h_subsets_least, r_subsets_asRest, g_subsets_weight, g_subsets_asItem, g_subsets_least, g_subsets_asRest)
def SU.h_subsets (x : SU) : Nat := x.1
def SU.h_subsets_weight (x : SU) : Nat := x.2.1
def SU.h_subsets_asItem (x : SU) : Nat := x.2.2.1
def SU.h_subsets_asRest (x : SU) : Nat := x.2.2.2.1
def SU.h_subsets_least (x : SU) : Nat := x.2.2.2.2.1
def SU.r_subsets_asRest (x : SU) : Nat → Nat := x.2.2.2.2.2.1
def SU.g_subsets_weight (x : SU) : Nat → Int64 := x.2.2.2.2.2.2.1
def SU.g_subsets_asItem (x : SU) : Nat → Int64 := x.2.2.2.2.2.2.2.1
def SU.g_subsets_least (x : SU) : Nat → Int64 := x.2.2.2.2.2.2.2.2.1
def SU.g_subsets_asRest (x : SU) : Nat → Nat → Int64 := x.2.2.2.2.2.2.2.2.2
def vS : Option SP → Value
  | none => .null
  | some x => .ref x.h_spans
def vU : Option SU → Value
  | none => .null
  | some x => .ref x.h_subsets
def WB (cy : Nat → ClassId) (a : CA) (z : CZ) (ra : RA) (y : RZ) (o : Nat) (g : Nat → Int64) (vs vu : Value) : va_W := (a.h_this, .inr (7, [.ref a.h_use, .ref a.h_tape, .int z.f_taped, .ref a.h_reader, .int z.f_faultPlace, .ref a.h_tree, .ref a.h_draft, .ref a.h_page, .ref a.h_exchanges, vs, .int z.f_spansKnown, vu, .long z.f_freeCost, .int z.f_freeKnown])) :: (a.h_use, .inr (6, [.int z.f_use_size, .ref a.h_use_counts, .ref a.h_use_words, .ref a.h_use_settings])) :: (a.h_use_counts, .inl (cy 0, 40, .inl z.g_use_counts)) :: (a.h_use_words, .inl (cy 0, 40, .inl z.g_use_words)) :: (a.h_use_settings, .inl (cy 0, 4, .inl z.g_use_settings)) :: (a.h_tape, .inl (cy 2, 400, .inl z.g_tape)) :: (a.h_reader, .inr (2, [.int z.f_reader_faultNumber, .int z.f_reader_faultPlace, .ref a.h_reader_open, .int z.f_reader_depth, .ref a.h_reader_seen, .int z.f_reader_seenCount])) :: (a.h_reader_open, .inl (cy 0, 40, .inl z.g_reader_open)) :: (a.h_reader_seen, .inl (cy 3, 40, .inl z.g_reader_seen)) :: (a.h_tree, .inr (5, [.int z.f_tree_lists, .ref a.h_tree_sizes, .ref a.h_tree_above, .ref a.h_tree_placeAbove, .ref a.h_tree_items, .ref a.h_tree_home, .ref a.h_tree_placeHome, .ref a.h_tree_tally])) :: (a.h_tree_sizes, .inl (cy 0, 80, .inl z.g_tree_sizes)) :: (a.h_tree_above, .inl (cy 0, 80, .inl z.g_tree_above)) :: (a.h_tree_placeAbove, .inl (cy 0, 80, .inl z.g_tree_placeAbove)) :: (a.h_tree_items, .inl (cy 0, 720, .inl z.g_tree_items)) :: (a.h_tree_home, .inl (cy 0, 40, .inl z.g_tree_home)) :: (a.h_tree_placeHome, .inl (cy 0, 40, .inl z.g_tree_placeHome)) :: (a.h_tree_tally, .inl (cy 0, 24, .inl z.g_tree_tally)) :: (a.h_draft, .inr (5, [.int z.f_draft_lists, .ref a.h_draft_sizes, .ref a.h_draft_above, .ref a.h_draft_placeAbove, .ref a.h_draft_items, .ref a.h_draft_home, .ref a.h_draft_placeHome, .ref a.h_draft_tally])) :: (a.h_draft_sizes, .inl (cy 0, 80, .inl z.g_draft_sizes)) :: (a.h_draft_above, .inl (cy 0, 80, .inl z.g_draft_above)) :: (a.h_draft_placeAbove, .inl (cy 0, 80, .inl z.g_draft_placeAbove)) :: (a.h_draft_items, .inl (cy 0, 720, .inl z.g_draft_items)) :: (a.h_draft_home, .inl (cy 0, 40, .inl z.g_draft_home)) :: (a.h_draft_placeHome, .inl (cy 0, 40, .inl z.g_draft_placeHome)) :: (a.h_draft_tally, .inl (cy 0, 24, .inl z.g_draft_tally)) :: (a.h_page, .inr (1, [.ref a.h_page_bytes, .int z.f_page_length])) :: (a.h_page_bytes, .inl (cy 2, 189, .inl z.g_page_bytes)) :: (a.h_exchanges, .inr (0, [.ref a.h_exchanges_sums, .ref a.h_exchanges_lengths, .ref a.h_exchanges_rows, .int z.f_exchanges_reckoned, .ref a.h_exchanges_lower, .ref a.h_exchanges_upper, .int z.f_exchanges_pairs, .ref a.h_exchanges_counts, .ref a.h_exchanges_steps, .long z.f_exchanges_unlearn, .ref a.h_exchanges_row])) :: (a.h_exchanges_sums, .inl (cy 1, 4, .inr (.inl z.g_exchanges_sums))) :: (a.h_exchanges_lengths, .inl (cy 0, 4, .inl z.g_exchanges_lengths)) :: (a.h_exchanges_rows, .inl (cy 4, 4, .inr (.inr (.inr (.inr (fun i => if i < 4 then some (a.r_exchanges_rows i) else none)))))) :: (a.r_exchanges_rows 0, .inl (cy 0, 3, .inl (z.g_exchanges_rows 0))) :: (a.r_exchanges_rows 1, .inl (cy 0, 3, .inl (z.g_exchanges_rows 1))) :: (a.r_exchanges_rows 2, .inl (cy 0, 3, .inl (z.g_exchanges_rows 2))) :: (a.r_exchanges_rows 3, .inl (cy 0, 3, .inl (z.g_exchanges_rows 3))) :: (a.h_exchanges_lower, .inl (cy 0, 66, .inl z.g_exchanges_lower)) :: (a.h_exchanges_upper, .inl (cy 0, 66, .inl z.g_exchanges_upper)) :: (a.h_exchanges_counts, .inl (cy 1, 12, .inr (.inl z.g_exchanges_counts))) :: (a.h_exchanges_steps, .inl (cy 1, 12, .inr (.inl z.g_exchanges_steps))) :: (a.h_exchanges_row, .inl (cy 0, 3, .inl z.g_exchanges_row)) :: (ra.h_this, .inr (8, (.int y.f_thrown :: .ref ra.h_counts :: .ref ra.h_words :: .int y.f_commands :: .int y.f_look :: .int y.f_down :: .int y.f_breadth :: .int y.f_unlearn :: .ref ra.h_tape :: .int y.f_taped :: .int y.f_size :: .ref ra.h_page :: .int y.f_paged :: .ref ra.h_items :: .ref ra.h_many :: .int y.f_lists :: .ref ra.h_newItems :: .ref ra.h_newMany :: .int y.f_newLists :: .int y.f_at :: .int y.f_fault :: .int y.f_place :: .ref ra.h_has :: .ref ra.h_open :: .ref ra.h_wayList :: .ref ra.h_wayPlace :: .int y.f_ways :: .ref ra.h_bits :: .ref ra.h_least :: .ref ra.h_menus :: .ref ra.h_firsts :: .ref ra.h_weights :: .ref ra.h_free :: .ref ra.h_setWeights :: .ref ra.h_stepsAt :: .ref ra.h_pairOne :: .ref ra.h_pairOther :: .int y.f_pairs :: .ref ra.h_row :: .ref ra.h_best :: .int y.f_bestMany :: .long y.f_bestSum :: []))) :: (ra.h_counts, .inl (cy 0, 40, .inl y.g_counts)) :: (ra.h_words, .inl (cy 0, 40, .inl y.g_words)) :: (ra.h_tape, .inl (cy 2, 400, .inl y.g_tape)) :: (ra.h_page, .inl (cy 2, 600, .inl y.g_page)) :: (ra.h_items, .inl (cy 0, 756, .inl y.g_items)) :: (ra.h_many, .inl (cy 0, 84, .inl y.g_many)) :: (ra.h_newItems, .inl (cy 0, 756, .inl y.g_newItems)) :: (ra.h_newMany, .inl (cy 0, 84, .inl y.g_newMany)) :: (ra.h_has, .inl (cy 3, 40, .inl y.g_has)) :: (ra.h_open, .inl (cy 0, 41, .inl y.g_open)) :: (ra.h_wayList, .inl (cy 0, 84, .inl y.g_wayList)) :: (ra.h_wayPlace, .inl (cy 0, 84, .inl y.g_wayPlace)) :: (ra.h_bits, .inl (cy 0, 24, .inl y.g_bits)) :: (ra.h_least, .inl (cy 1, 18491, .inr (.inl y.g_least))) :: (ra.h_menus, .inl (cy 0, 18491, .inl y.g_menus)) :: (ra.h_firsts, .inl (cy 0, 18491, .inl y.g_firsts)) :: (ra.h_weights, .inl (cy 1, 41, .inr (.inl y.g_weights))) :: (ra.h_free, .inl (cy 1, 11264, .inr (.inl y.g_free))) :: (ra.h_setWeights, .inl (cy 1, 1024, .inr (.inl y.g_setWeights))) :: (ra.h_stepsAt, .inl (cy 0, 12, .inl y.g_stepsAt)) :: (ra.h_pairOne, .inl (cy 0, 66, .inl y.g_pairOne)) :: (ra.h_pairOther, .inl (cy 0, 66, .inl y.g_pairOther)) :: (ra.h_row, .inl (cy 0, 3, .inl y.g_row)) :: (ra.h_best, .inl (cy 0, 3, .inl y.g_best)) :: (o, .inl (cy 1, 1, .inr (.inl g))) :: []
def spW (cy : Nat → ClassId) (x : SP) : va_W := (x.h_spans, .inr (3, [.ref x.h_spans_before, .ref x.h_spans_asItem, .ref x.h_spans_asRest, .ref x.h_spans_listFrom, .ref x.h_spans_listTo])) :: (x.h_spans_before, .inl (cy 1, 41, .inr (.inl x.g_spans_before))) :: (x.h_spans_asItem, .inl (cy 1, 1681, .inr (.inl x.g_spans_asItem))) :: (x.h_spans_asRest, .inl (cy 5, 9, .inr (.inr (.inr (.inr (fun i => if i < 9 then some (x.r_spans_asRest i) else none)))))) :: (x.h_spans_listFrom, .inl (cy 0, 40, .inl x.g_spans_listFrom)) :: (x.h_spans_listTo, .inl (cy 0, 40, .inl x.g_spans_listTo)) :: (x.r_spans_asRest 0, .inl (cy 1, 1681, .inr (.inl (x.g_spans_asRest 0)))) :: (x.r_spans_asRest 1, .inl (cy 1, 1681, .inr (.inl (x.g_spans_asRest 1)))) :: (x.r_spans_asRest 2, .inl (cy 1, 1681, .inr (.inl (x.g_spans_asRest 2)))) :: (x.r_spans_asRest 3, .inl (cy 1, 1681, .inr (.inl (x.g_spans_asRest 3)))) :: (x.r_spans_asRest 4, .inl (cy 1, 1681, .inr (.inl (x.g_spans_asRest 4)))) :: (x.r_spans_asRest 5, .inl (cy 1, 1681, .inr (.inl (x.g_spans_asRest 5)))) :: (x.r_spans_asRest 6, .inl (cy 1, 1681, .inr (.inl (x.g_spans_asRest 6)))) :: (x.r_spans_asRest 7, .inl (cy 1, 1681, .inr (.inl (x.g_spans_asRest 7)))) :: (x.r_spans_asRest 8, .inl (cy 1, 1681, .inr (.inl (x.g_spans_asRest 8)))) :: []
def suW (cy : Nat → ClassId) (x : SU) : va_W := (x.h_subsets, .inr (4, [.ref x.h_subsets_weight, .ref x.h_subsets_asItem, .ref x.h_subsets_asRest, .ref x.h_subsets_least])) :: (x.h_subsets_weight, .inl (cy 1, 1024, .inr (.inl x.g_subsets_weight))) :: (x.h_subsets_asItem, .inl (cy 1, 1024, .inr (.inl x.g_subsets_asItem))) :: (x.h_subsets_asRest, .inl (cy 5, 9, .inr (.inr (.inr (.inr (fun i => if i < 9 then some (x.r_subsets_asRest i) else none)))))) :: (x.h_subsets_least, .inl (cy 1, 10, .inr (.inl x.g_subsets_least))) :: (x.r_subsets_asRest 0, .inl (cy 1, 1024, .inr (.inl (x.g_subsets_asRest 0)))) :: (x.r_subsets_asRest 1, .inl (cy 1, 1024, .inr (.inl (x.g_subsets_asRest 1)))) :: (x.r_subsets_asRest 2, .inl (cy 1, 1024, .inr (.inl (x.g_subsets_asRest 2)))) :: (x.r_subsets_asRest 3, .inl (cy 1, 1024, .inr (.inl (x.g_subsets_asRest 3)))) :: (x.r_subsets_asRest 4, .inl (cy 1, 1024, .inr (.inl (x.g_subsets_asRest 4)))) :: (x.r_subsets_asRest 5, .inl (cy 1, 1024, .inr (.inl (x.g_subsets_asRest 5)))) :: (x.r_subsets_asRest 6, .inl (cy 1, 1024, .inr (.inl (x.g_subsets_asRest 6)))) :: (x.r_subsets_asRest 7, .inl (cy 1, 1024, .inr (.inl (x.g_subsets_asRest 7)))) :: (x.r_subsets_asRest 8, .inl (cy 1, 1024, .inr (.inl (x.g_subsets_asRest 8)))) :: []
def spP (cy : Nat → ClassId) : Option SP → va_W
  | none => []
  | some x => spW cy x
def suP (cy : Nat → ClassId) : Option SU → va_W
  | none => []
  | some x => suW cy x
def cnS (sp : Option SP) : Nat × Nat := match sp with
  | none => (0, 0)
  | some _ => (15, 16945)
def cnU (su : Option SU) : Nat × Nat := match su with
  | none => (0, 0)
  | some _ => (14, 11287)
/-- cells and slots behind n calls -/
def kC (sp : Option SP) (su : Option SU) (n : Nat) : Nat := 70 + (cnS sp).1 + (cnU su).1 + n
def kS (sp : Option SP) (su : Option SU) (n : Nat) : Nat := 80000 + (cnS sp).2 + (cnU su).2 + 6 * n
theorem kC_le {sp : Option SP} {su : Option SU} {n : Nat} (hn : n ≤ 600) : kC sp su n + 100 ≤ 601024 ∧ kS sp su n + 100000 ≤ 7293034 := by
  unfold kC kS
  cases sp <;> cases su <;> (dsimp only [cnS, cnU]; omega)
def HSp (N : Nat) (ct se : Nat → Int32) (sk : Int32) : Option SP → Prop
  | none => sk = 0
  | some x => RSp N ct se sk x.g_spans_before x.g_spans_asItem x.g_spans_asRest
theorem HSp.fresh {N N' : Nat} {ct se ct' se' : Nat → Int32} {sk : Int32} : ∀ {sp : Option SP}, HSp N ct se sk sp → HSp N' ct' se' 0 sp
  | none, _ => rfl
  | some _, h => ⟨h.1, .inl rfl⟩
def HSu : Option SU → Prop
  | none => True
  | some x => x.g_subsets_weight 0 = 0
/-- what ties the two -/
def REL (z : CZ) (y : RZ) (sp : Option SP) (su : Option SU) : Prop :=
  ∃ N L T P : Nat, (z.f_use_size = nI N ∧ y.f_commands = nI N) ∧ (z.f_tree_lists = nI L ∧ y.f_lists = nI L) ∧ (z.f_taped = nI T ∧ y.f_taped = nI T) ∧ (z.f_page_length = nI P ∧ y.f_paged = nI P) ∧ y.f_place = z.f_faultPlace
    ∧ RU N z.g_use_counts z.g_use_words z.g_use_settings y.g_counts y.g_words y.f_look y.f_down y.f_breadth y.f_unlearn
    ∧ RT T z.g_tape y.g_tape ∧ RP P z.g_page_bytes y.g_page
    ∧ RTr L N z.g_tree_sizes z.g_tree_above z.g_tree_placeAbove z.g_tree_items z.g_tree_home z.g_tree_placeHome y.g_items y.g_many
    ∧ HSp N z.g_use_counts z.g_use_settings z.f_spansKnown sp
    ∧ RFr N z.g_use_counts z.g_use_settings z.f_freeKnown z.f_freeCost
    ∧ HSu su
    ∧ y.g_weights 0 = 0
    ∧ RX N z.g_use_counts z.g_use_settings z.g_tree_above z.g_tree_placeAbove z.g_tree_home z.g_tree_placeHome z.f_exchanges_reckoned z.f_exchanges_pairs z.f_exchanges_unlearn z.g_exchanges_sums z.g_exchanges_lengths z.g_exchanges_rows z.g_exchanges_lower z.g_exchanges_upper z.g_exchanges_counts z.g_exchanges_steps
abbrev AL (s : State) : Nat → Prop := fun q => s.heap.size ≤ q
def FX (p : Program) (l : Launch) (s : State) (m : MethodId) (c : Code) (b L : Nat) (xs : Nat → Int32) (D : va_G) (cy : Nat → ClassId) (sa : Nat → Nat) (tl th : Nat) : Prop :=
  p.tables.exec = Jvm.exec ∧ c.code = cL_law ∧ c.maxLocals = 8 ∧ s.vm.findClass RL = some m.cls ∧ (∀ w ∈ wsL_law, w.before #[Value.ref b] s = true) ∧ va_X b L xs s s.heap ∧ b < s.heap.size ∧ l.stackTraces = false ∧ XH sa tl th (AL s) s ∧ va_K D vwCl (TY cy) s ∧ (va_AOA .long s ∧ va_Nw (.methodLinkNest RX7 146 yX3_init RX7) s ∧ va_Nw (.methodLinkNest RX7 191 yX4_init RX7) s)
def WD (D : va_G) (s : State) (w : va_W) (H : Heap) (locs : List Loc) : Prop := va_P D vwCl w H ∧ va_D (AL s) w ∧ va_S (AL s) s.heap H locs
def LV (b : Nat) (a : CA) (ra : RA) (o i : Nat) : List (Nat × Value) := [(0, .ref b), (1, .ref a.h_this), (2, .ref ra.h_this), (3, .ref o), (4, .int (nI i))]
theorem in_k {i L : Nat} (hi : i + 6 ≤ L) (hL : L ≤ 3072) : vp_in (nI i) L ∧ vp_in (nI i + 1) L ∧ vp_in (nI i + 2) L ∧ vp_in (nI i + 3) L ∧ vp_in (nI i + 4) L ∧ vp_in (nI i + 5) L := by
  have h : ∀ k, k < 6 → vp_in (nI i + nI k) L := fun k hk => by
    rw [nI_add]
    exact vp_in_nI (by omega) (by omega)
  have h0 := h 0 (by omega)
  rw [nI_add] at h0
  exact ⟨h0, h 1 (by omega), h 2 (by omega), h 3 (by omega), h 4 (by omega), h 5 (by omega)⟩
