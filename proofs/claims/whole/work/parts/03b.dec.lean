/-! ===== the tables of code are what decode says (printed by gen_dec.py) ===== -/
noncomputable section
def ckD (b : ByteArray) (t : List (List (Nat × Instr × Nat))) : Bool := t.all fun l => l.all fun r => decide (decode b r.1 = .ok (r.2.1, r.2.2))
theorem ckD_split (k : Nat) {b : ByteArray} {t : List (List (Nat × Instr × Nat))} (h1 : ckD b (t.take k) = true) (h2 : ckD b (t.drop k) = true) : ckD b t = true := by
  unfold ckD at *
  rw [← List.take_append_drop k t, List.all_append, h1, h2]
  rfl
def ckC : List PInf → List (List (List (Nat × Instr × Nat))) → Bool
  | a :: s, b :: t => ckD a.2.1 b && ckC s t
  | _, _ => true
theorem ckC_cons {a : PInf} {s : List PInf} {b : List (List (Nat × Instr × Nat))} {t : List (List (List (Nat × Instr × Nat)))} (h1 : ckD a.2.1 b = true) (h2 : ckC s t = true) : ckC (a :: s) (b :: t) = true := by
  unfold ckC
  rw [h1, h2]
  rfl
theorem kdX0_init : ckD cX0_init tbX0_init = true := by decide +kernel
theorem kdX0_clear : ckD cX0_clear tbX0_clear = true := by decide +kernel
theorem kdX0_keepPiece : ckD cX0_keepPiece tbX0_keepPiece = true := by decide +kernel
theorem kdX0_keepSpot : ckD cX0_keepSpot tbX0_keepSpot = true := by decide +kernel
theorem kdX0_beginSpot : ckD cX0_beginSpot tbX0_beginSpot = true := by decide +kernel
theorem kdX0_addNeighbour : ckD cX0_addNeighbour tbX0_addNeighbour = true := by decide +kernel
theorem kdX0_isMap : ckD cX0_isMap tbX0_isMap = true := by decide +kernel
theorem kdX0_neighbourAt : ckD cX0_neighbourAt tbX0_neighbourAt = true := by decide +kernel
theorem kdX0_behindOf : ckD cX0_behindOf tbX0_behindOf = true := by decide +kernel
theorem kdX0_rowOf : ckD cX0_rowOf tbX0_rowOf = true := by decide +kernel
theorem kdX0_heldPieces : ckD cX0_heldPieces tbX0_heldPieces = true := by decide +kernel
set_option maxRecDepth 100000 in
theorem ckC_0 : ckC pm_inf0 [tbX0_init, tbX0_clear, tbX0_keepPiece, tbX0_keepSpot, tbX0_beginSpot, tbX0_addNeighbour, tbX0_isMap, tbX0_neighbourAt, tbX0_behindOf, tbX0_rowOf, tbX0_heldPieces] = true := (ckC_cons kdX0_init (ckC_cons kdX0_clear (ckC_cons kdX0_keepPiece (ckC_cons kdX0_keepSpot (ckC_cons kdX0_beginSpot (ckC_cons kdX0_addNeighbour (ckC_cons kdX0_isMap (ckC_cons kdX0_neighbourAt (ckC_cons kdX0_behindOf (ckC_cons kdX0_rowOf (ckC_cons kdX0_heldPieces rfl)))))))))))
theorem kdX1_init : ckD cX1_init tbX1_init = true := by decide +kernel
theorem kdX1_tally : ckD cX1_tally tbX1_tally = true := by decide +kernel
theorem kdX1_findRows : ckD cX1_findRows tbX1_findRows = true := by decide +kernel
theorem kdX1_nextRow : ckD cX1_nextRow tbX1_nextRow = true := by decide +kernel
theorem kdX1_isLeast : ckD cX1_isLeast tbX1_isLeast = true := by decide +kernel
theorem kdX1_isLess : ckD cX1_isLess tbX1_isLess = true := by decide +kernel
theorem kdX1_digitsOf : ckD cX1_digitsOf tbX1_digitsOf = true := by decide +kernel
theorem kdX1_takeDigits : ckD cX1_takeDigits tbX1_takeDigits = true := by decide +kernel
set_option maxRecDepth 100000 in
theorem ckC_1 : ckC pm_inf1 [tbX1_init, tbX1_tally, tbX1_findRows, tbX1_nextRow, tbX1_isLeast, tbX1_isLess, tbX1_digitsOf, tbX1_takeDigits] = true := (ckC_cons kdX1_init (ckC_cons kdX1_tally (ckC_cons kdX1_findRows (ckC_cons kdX1_nextRow (ckC_cons kdX1_isLeast (ckC_cons kdX1_isLess (ckC_cons kdX1_digitsOf (ckC_cons kdX1_takeDigits rfl))))))))
theorem kdX2_init : ckD cX2_init tbX2_init = true := by decide +kernel
theorem kdX2_clear : ckD cX2_clear tbX2_clear = true := by decide +kernel
theorem kdX2_copyFrom : ckD cX2_copyFrom tbX2_copyFrom = true := by decide +kernel
theorem kdX2_colourAt : ckD cX2_colourAt tbX2_colourAt = true := by decide +kernel
theorem kdX2_painted : ckD cX2_painted tbX2_painted = true := by decide +kernel
theorem kdX2_isPainted : ckD cX2_isPainted tbX2_isPainted = true := by decide +kernel
theorem kdX2_paintedCount : ckD cX2_paintedCount tbX2_paintedCount = true := by decide +kernel
theorem kdX2_unlikeColours : ckD cX2_unlikeColours tbX2_unlikeColours = true := by decide +kernel
theorem kdX2_freeColours : ckD cX2_freeColours tbX2_freeColours = true := by decide +kernel
theorem kdX2_mayPaint : ckD cX2_mayPaint tbX2_mayPaint = true := by decide +kernel
theorem kdX2_put : ckD cX2_put tbX2_put = true := by decide +kernel
theorem kdX2_take : ckD cX2_take tbX2_take = true := by decide +kernel
theorem kdX2_chainOf : ckD cX2_chainOf tbX2_chainOf = true := by decide +kernel
theorem kdX2_exchange : ckD cX2_exchange tbX2_exchange = true := by decide +kernel
theorem kdX2_attempt : ckD cX2_attempt tbX2_attempt = true := by decide +kernel
set_option maxRecDepth 100000 in
theorem ckC_2 : ckC pm_inf2 [tbX2_init, tbX2_clear, tbX2_copyFrom, tbX2_colourAt, tbX2_painted, tbX2_isPainted, tbX2_paintedCount, tbX2_unlikeColours, tbX2_freeColours, tbX2_mayPaint, tbX2_put, tbX2_take, tbX2_chainOf, tbX2_exchange, tbX2_attempt] = true := (ckC_cons kdX2_init (ckC_cons kdX2_clear (ckC_cons kdX2_copyFrom (ckC_cons kdX2_colourAt (ckC_cons kdX2_painted (ckC_cons kdX2_isPainted (ckC_cons kdX2_paintedCount (ckC_cons kdX2_unlikeColours (ckC_cons kdX2_freeColours (ckC_cons kdX2_mayPaint (ckC_cons kdX2_put (ckC_cons kdX2_take (ckC_cons kdX2_chainOf (ckC_cons kdX2_exchange (ckC_cons kdX2_attempt rfl)))))))))))))))
theorem kdX3_init : ckD cX3_init tbX3_init = true := by decide +kernel
theorem kdX3_begin : ckD cX3_begin tbX3_begin = true := by decide +kernel
theorem kdX3_addSpoke : ckD cX3_addSpoke tbX3_addSpoke = true := by decide +kernel
theorem kdX3_build : ckD cX3_build tbX3_build = true := by decide +kernel
theorem kdX3_isWheel : ckD cX3_isWheel tbX3_isWheel = true := by decide +kernel
theorem kdX3_placesOfRing : ckD cX3_placesOfRing tbX3_placesOfRing = true := by decide +kernel
theorem kdX3_edgesToRing : ckD cX3_edgesToRing tbX3_edgesToRing = true := by decide +kernel
theorem kdX3_linkBorder : ckD cX3_linkBorder tbX3_linkBorder = true := by decide +kernel
theorem kdX3_linkPlaces : ckD cX3_linkPlaces tbX3_linkPlaces = true := by decide +kernel
theorem kdX3_link : ckD cX3_link tbX3_link = true := by decide +kernel
theorem kdX3_addJoin : ckD cX3_addJoin tbX3_addJoin = true := by decide +kernel
theorem kdX3_edgeCount : ckD cX3_edgeCount tbX3_edgeCount = true := by decide +kernel
theorem kdX3_isHeldBy : ckD cX3_isHeldBy tbX3_isHeldBy = true := by decide +kernel
theorem kdX3_standsAt : ckD cX3_standsAt tbX3_standsAt = true := by decide +kernel
theorem kdX3_study : ckD cX3_study tbX3_study = true := by decide +kernel
theorem kdX3_addLevel : ckD cX3_addLevel tbX3_addLevel = true := by decide +kernel
theorem kdX3_include : ckD cX3_include tbX3_include = true := by decide +kernel
theorem kdX3_sizeOf : ckD cX3_sizeOf tbX3_sizeOf = true := by decide +kernel
theorem kdX3_isD : ckD cX3_isD tbX3_isD = true := by decide +kernel
theorem kdX3_isC : ckD cX3_isC tbX3_isC = true := by decide +kernel
theorem kdX3_firstExtension : ckD cX3_firstExtension tbX3_firstExtension = true := by decide +kernel
theorem kdX3_fillRing : ckD cX3_fillRing tbX3_fillRing = true := by decide +kernel
theorem kdX3_fillFrom : ckD cX3_fillFrom tbX3_fillFrom = true := by decide +kernel
set_option maxRecDepth 100000 in
theorem ckC_3 : ckC pm_inf3 [tbX3_init, tbX3_begin, tbX3_addSpoke, tbX3_build, tbX3_isWheel, tbX3_placesOfRing, tbX3_edgesToRing, tbX3_linkBorder, tbX3_linkPlaces, tbX3_link, tbX3_addJoin, tbX3_edgeCount, tbX3_isHeldBy, tbX3_standsAt, tbX3_study, tbX3_addLevel, tbX3_include, tbX3_sizeOf, tbX3_isD, tbX3_isC, tbX3_firstExtension, tbX3_fillRing, tbX3_fillFrom] = true := (ckC_cons kdX3_init (ckC_cons kdX3_begin (ckC_cons kdX3_addSpoke (ckC_cons kdX3_build (ckC_cons kdX3_isWheel (ckC_cons kdX3_placesOfRing (ckC_cons kdX3_edgesToRing (ckC_cons kdX3_linkBorder (ckC_cons kdX3_linkPlaces (ckC_cons kdX3_link (ckC_cons kdX3_addJoin (ckC_cons kdX3_edgeCount (ckC_cons kdX3_isHeldBy (ckC_cons kdX3_standsAt (ckC_cons kdX3_study (ckC_cons kdX3_addLevel (ckC_cons kdX3_include (ckC_cons kdX3_sizeOf (ckC_cons kdX3_isD (ckC_cons kdX3_isC (ckC_cons kdX3_firstExtension (ckC_cons kdX3_fillRing (ckC_cons kdX3_fillFrom rfl)))))))))))))))))))))))
theorem kdX4_init : ckD cX4_init tbX4_init = true := by decide +kernel
theorem kdX4_forgetTold : ckD cX4_forgetTold tbX4_forgetTold = true := by decide +kernel
theorem kdX4_toldOf : ckD cX4_toldOf tbX4_toldOf = true := by decide +kernel
theorem kdX4_run : ckD cX4_run tbX4_run = true := by decide +kernel
theorem kdX4_takeStep : ckD cX4_takeStep tbX4_takeStep = true := by decide +kernel
theorem kdX4_deedOf : ckD cX4_deedOf tbX4_deedOf = true := by decide +kernel
theorem kdX4_numbersOf : ckD cX4_numbersOf tbX4_numbersOf = true := by decide +kernel
theorem kdX4_perform : ckD cX4_perform tbX4_perform = true := by decide +kernel
theorem kdX4_lay : ckD cX4_lay tbX4_lay = true := by decide +kernel
theorem kdX4_takeOff : ckD cX4_takeOff tbX4_takeOff = true := by decide +kernel
theorem kdX4_takeAllOff : ckD cX4_takeAllOff tbX4_takeAllOff = true := by decide +kernel
set_option maxRecDepth 100000 in
theorem ckC_4 : ckC pm_inf4 [tbX4_init, tbX4_forgetTold, tbX4_toldOf, tbX4_run, tbX4_takeStep, tbX4_deedOf, tbX4_numbersOf, tbX4_perform, tbX4_lay, tbX4_takeOff, tbX4_takeAllOff] = true := (ckC_cons kdX4_init (ckC_cons kdX4_forgetTold (ckC_cons kdX4_toldOf (ckC_cons kdX4_run (ckC_cons kdX4_takeStep (ckC_cons kdX4_deedOf (ckC_cons kdX4_numbersOf (ckC_cons kdX4_perform (ckC_cons kdX4_lay (ckC_cons kdX4_takeOff (ckC_cons kdX4_takeAllOff rfl)))))))))))
theorem kdX5_read : ckD cX5_read tbX5_read = true := by decide +kernel
theorem kdX5_readPiece : ckD cX5_readPiece tbX5_readPiece = true := by decide +kernel
theorem kdX5_readJoin : ckD cX5_readJoin tbX5_readJoin = true := by decide +kernel
theorem kdX5_readVertex : ckD cX5_readVertex tbX5_readVertex = true := by decide +kernel
theorem kdX5_readRule : ckD cX5_readRule tbX5_readRule = true := by decide +kernel
theorem kdX5_readRange : ckD cX5_readRange tbX5_readRange = true := by decide +kernel
theorem kdX5_readSpot : ckD cX5_readSpot tbX5_readSpot = true := by decide +kernel
theorem kdX5_readNumber : ckD cX5_readNumber tbX5_readNumber = true := by decide +kernel
theorem kdX5_checkNumber : ckD cX5_checkNumber tbX5_checkNumber = true := by decide +kernel
set_option maxRecDepth 100000 in
theorem ckC_5 : ckC pm_inf5 [tbX5_read, tbX5_readPiece, tbX5_readJoin, tbX5_readVertex, tbX5_readRule, tbX5_readRange, tbX5_readSpot, tbX5_readNumber, tbX5_checkNumber] = true := (ckC_cons kdX5_read (ckC_cons kdX5_readPiece (ckC_cons kdX5_readJoin (ckC_cons kdX5_readVertex (ckC_cons kdX5_readRule (ckC_cons kdX5_readRange (ckC_cons kdX5_readSpot (ckC_cons kdX5_readNumber (ckC_cons kdX5_checkNumber rfl)))))))))
theorem kdX6_init : ckD cX6_init tbX6_init = true := by decide +kernel
theorem kdX6_grow : ckD cX6_grow tbX6_grow = true := by decide +kernel
theorem kdX6_tabulate : ckD cX6_tabulate tbX6_tabulate = true := by decide +kernel
theorem kdX6_colourAt : ckD cX6_colourAt tbX6_colourAt = true := by decide +kernel
theorem kdX6_codeOfDigits : ckD cX6_codeOfDigits tbX6_codeOfDigits = true := by decide +kernel
theorem kdX6_find : ckD cX6_find tbX6_find = true := by decide +kernel
theorem kdX6_renamed : ckD cX6_renamed tbX6_renamed = true := by decide +kernel
theorem kdX6_split : ckD cX6_split tbX6_split = true := by decide +kernel
theorem kdX6_turned : ckD cX6_turned tbX6_turned = true := by decide +kernel
theorem kdX6_fenceCount : ckD cX6_fenceCount tbX6_fenceCount = true := by decide +kernel
theorem kdX6_leadsBelow : ckD cX6_leadsBelow tbX6_leadsBelow = true := by decide +kernel
theorem kdX6_leadsBelowBy : ckD cX6_leadsBelowBy tbX6_leadsBelowBy = true := by decide +kernel
set_option maxRecDepth 100000 in
theorem ckC_6 : ckC pm_inf6 [tbX6_init, tbX6_grow, tbX6_tabulate, tbX6_colourAt, tbX6_codeOfDigits, tbX6_find, tbX6_renamed, tbX6_split, tbX6_turned, tbX6_fenceCount, tbX6_leadsBelow, tbX6_leadsBelowBy] = true := (ckC_cons kdX6_init (ckC_cons kdX6_grow (ckC_cons kdX6_tabulate (ckC_cons kdX6_colourAt (ckC_cons kdX6_codeOfDigits (ckC_cons kdX6_find (ckC_cons kdX6_renamed (ckC_cons kdX6_split (ckC_cons kdX6_turned (ckC_cons kdX6_fenceCount (ckC_cons kdX6_leadsBelow (ckC_cons kdX6_leadsBelowBy rfl))))))))))))
theorem kdX7_init : ckD cX7_init tbX7_init = true := by decide +kernel
theorem kdX7_ahead : ckD cX7_ahead tbX7_ahead = true := by decide +kernel
theorem kdX7_begin : ckD cX7_begin tbX7_begin = true := by decide +kernel
theorem kdX7_keepRule : ckD cX7_keepRule tbX7_keepRule = true := by decide +kernel
theorem kdX7_tell : ckD cX7_tell tbX7_tell = true := by decide +kernel
theorem kdX7_sent : ckD cX7_sent tbX7_sent = true := by decide +kernel
theorem kdX7_behind : ckD cX7_behind tbX7_behind = true := by decide +kernel
theorem kdX7_net : ckD cX7_net tbX7_net = true := by decide +kernel
theorem kdX7_applies : ckD cX7_applies tbX7_applies = true := by decide +kernel
theorem kdX7_isWithin : ckD cX7_isWithin tbX7_isWithin = true := by decide +kernel
set_option maxRecDepth 100000 in
theorem ckC_7 : ckC pm_inf7 [tbX7_init, tbX7_ahead, tbX7_begin, tbX7_keepRule, tbX7_tell, tbX7_sent, tbX7_behind, tbX7_net, tbX7_applies, tbX7_isWithin] = true := (ckC_cons kdX7_init (ckC_cons kdX7_ahead (ckC_cons kdX7_begin (ckC_cons kdX7_keepRule (ckC_cons kdX7_tell (ckC_cons kdX7_sent (ckC_cons kdX7_behind (ckC_cons kdX7_net (ckC_cons kdX7_applies (ckC_cons kdX7_isWithin rfl))))))))))
theorem kdX8_init : ckD cX8_init tbX8_init = true := by decide +kernel
theorem kdX8_begin : ckD cX8_begin tbX8_begin = true := by decide +kernel
theorem kdX8_paintAll : ckD cX8_paintAll tbX8_paintAll = true := by decide +kernel
theorem kdX8_allWays : ckD cX8_allWays tbX8_allWays = true := by decide +kernel
theorem kdX8_firstWay : ckD cX8_firstWay tbX8_firstWay = true := by decide +kernel
theorem kdX8_countWays : ckD cX8_countWays tbX8_countWays = true := by decide +kernel
theorem kdX8_seekFree : ckD cX8_seekFree tbX8_seekFree = true := by decide +kernel
theorem kdX8_isFreedBy : ckD cX8_isFreedBy tbX8_isFreedBy = true := by decide +kernel
theorem kdX8_playGame : ckD cX8_playGame tbX8_playGame = true := by decide +kernel
theorem kdX8_isWonByFirst : ckD cX8_isWonByFirst tbX8_isWonByFirst = true := by decide +kernel
theorem kdX8_liveYears : ckD cX8_liveYears tbX8_liveYears = true := by decide +kernel
theorem kdX8_stirred : ckD cX8_stirred tbX8_stirred = true := by decide +kernel
theorem kdX8_drawn : ckD cX8_drawn tbX8_drawn = true := by decide +kernel
set_option maxRecDepth 100000 in
theorem ckC_8 : ckC pm_inf8 [tbX8_init, tbX8_begin, tbX8_paintAll, tbX8_allWays, tbX8_firstWay, tbX8_countWays, tbX8_seekFree, tbX8_isFreedBy, tbX8_playGame, tbX8_isWonByFirst, tbX8_liveYears, tbX8_stirred, tbX8_drawn] = true := (ckC_cons kdX8_init (ckC_cons kdX8_begin (ckC_cons kdX8_paintAll (ckC_cons kdX8_allWays (ckC_cons kdX8_firstWay (ckC_cons kdX8_countWays (ckC_cons kdX8_seekFree (ckC_cons kdX8_isFreedBy (ckC_cons kdX8_playGame (ckC_cons kdX8_isWonByFirst (ckC_cons kdX8_liveYears (ckC_cons kdX8_stirred (ckC_cons kdX8_drawn rfl)))))))))))))
theorem kdX9_init : ckD cX9_init tbX9_init = true := by decide +kernel
theorem kdX9_begin : ckD cX9_begin tbX9_begin = true := by decide +kernel
theorem kdX9_copyFrom : ckD cX9_copyFrom tbX9_copyFrom = true := by decide +kernel
theorem kdX9_keepAct : ckD cX9_keepAct tbX9_keepAct = true := by decide +kernel
theorem kdX9_dropOldestAct : ckD cX9_dropOldestAct tbX9_dropOldestAct = true := by decide +kernel
theorem kdX9_undoLast : ckD cX9_undoLast tbX9_undoLast = true := by decide +kernel
theorem kdX9_keepNote : ckD cX9_keepNote tbX9_keepNote = true := by decide +kernel
set_option maxRecDepth 100000 in
theorem ckC_9 : ckC pm_inf9 [tbX9_init, tbX9_begin, tbX9_copyFrom, tbX9_keepAct, tbX9_dropOldestAct, tbX9_undoLast, tbX9_keepNote] = true := (ckC_cons kdX9_init (ckC_cons kdX9_begin (ckC_cons kdX9_copyFrom (ckC_cons kdX9_keepAct (ckC_cons kdX9_dropOldestAct (ckC_cons kdX9_undoLast (ckC_cons kdX9_keepNote rfl)))))))
theorem kdX10_init : ckD cX10_init tbX10_init = true := by decide +kernel
theorem kdX10_begin : ckD cX10_begin tbX10_begin = true := by decide +kernel
theorem kdX10_advance : ckD cX10_advance tbX10_advance = true := by decide +kernel
theorem kdX10_kindAt : ckD cX10_kindAt tbX10_kindAt = true := by decide +kernel
theorem kdX10_isWord : ckD cX10_isWord tbX10_isWord = true := by decide +kernel
set_option maxRecDepth 100000 in
theorem ckC_10 : ckC pm_inf10 [tbX10_init, tbX10_begin, tbX10_advance, tbX10_kindAt, tbX10_isWord] = true := (ckC_cons kdX10_init (ckC_cons kdX10_begin (ckC_cons kdX10_advance (ckC_cons kdX10_kindAt (ckC_cons kdX10_isWord rfl)))))
theorem kdX11_init : ckD cX11_init tbX11_init = true := by decide +kernel
theorem kdX11_feed : ckD cX11_feed tbX11_feed = true := by decide +kernel
theorem kdX11_atlas : ckD cX11_atlas tbX11_atlas = true := by decide +kernel
theorem kdX11_fault : ckD cX11_fault tbX11_fault = true := by decide +kernel
theorem kdX11_count : ckD cX11_count tbX11_count = true := by decide +kernel
theorem kdX11_piece : ckD cX11_piece tbX11_piece = true := by decide +kernel
theorem kdX11_vertex : ckD cX11_vertex tbX11_vertex = true := by decide +kernel
theorem kdX11_colour : ckD cX11_colour tbX11_colour = true := by decide +kernel
theorem kdX11_named : ckD cX11_named tbX11_named = true := by decide +kernel
theorem kdX11_level : ckD cX11_level tbX11_level = true := by decide +kernel
theorem kdX11_extend : ckD cX11_extend tbX11_extend = true := by decide +kernel
theorem kdX11_runs : ckD cX11_runs tbX11_runs = true := by decide +kernel
theorem kdX11_switched : ckD cX11_switched tbX11_switched = true := by decide +kernel
theorem kdX11_set : ckD cX11_set tbX11_set = true := by decide +kernel
theorem kdX11_sends : ckD cX11_sends tbX11_sends = true := by decide +kernel
theorem kdX11_hub : ckD cX11_hub tbX11_hub = true := by decide +kernel
theorem kdX11_cases : ckD cX11_cases tbX11_cases = true := by decide +kernel
theorem kdX11_spot : ckD cX11_spot tbX11_spot = true := by decide +kernel
theorem kdX11_scaled : ckD cX11_scaled tbX11_scaled = true := by decide +kernel
theorem kdX11_rule : ckD cX11_rule tbX11_rule = true := by decide +kernel
theorem kdX11_paint : ckD cX11_paint tbX11_paint = true := by decide +kernel
theorem kdX11_wash : ckD cX11_wash tbX11_wash = true := by decide +kernel
theorem kdX11_swap : ckD cX11_swap tbX11_swap = true := by decide +kernel
theorem kdX11_tune : ckD cX11_tune tbX11_tune = true := by decide +kernel
theorem kdX11_undo : ckD cX11_undo tbX11_undo = true := by decide +kernel
theorem kdX11_chain : ckD cX11_chain tbX11_chain = true := by decide +kernel
theorem kdX11_solve : ckD cX11_solve tbX11_solve = true := by decide +kernel
theorem kdX11_ways : ckD cX11_ways tbX11_ways = true := by decide +kernel
theorem kdX11_free : ckD cX11_free tbX11_free = true := by decide +kernel
theorem kdX11_play : ckD cX11_play tbX11_play = true := by decide +kernel
theorem kdX11_plan : ckD cX11_plan tbX11_plan = true := by decide +kernel
theorem kdX11_planned : ckD cX11_planned tbX11_planned = true := by decide +kernel
theorem kdX11_note : ckD cX11_note tbX11_note = true := by decide +kernel
theorem kdX11_forget : ckD cX11_forget tbX11_forget = true := by decide +kernel
theorem kdX11_meant : ckD cX11_meant tbX11_meant = true := by decide +kernel
theorem kdX11_years : ckD cX11_years tbX11_years = true := by decide +kernel
theorem kdX11_image : ckD cX11_image tbX11_image = true := by decide +kernel
theorem kdX11_restore : ckD cX11_restore tbX11_restore = true := by decide +kernel
theorem kdX11_putBytes : ckD cX11_putBytes tbX11_putBytes = true := by decide +kernel
theorem kdX11_takeTape : ckD cX11_takeTape tbX11_takeTape = true := by decide +kernel
theorem kdX11_pieceAt : ckD cX11_pieceAt tbX11_pieceAt = true := by decide +kernel
theorem kdX11_codeAt : ckD cX11_codeAt tbX11_codeAt = true := by decide +kernel
theorem kdX11_checkSpot : ckD cX11_checkSpot tbX11_checkSpot = true := by decide +kernel
theorem kdX11_checkRule : ckD cX11_checkRule tbX11_checkRule = true := by decide +kernel
theorem kdX11_refusedAct : ckD cX11_refusedAct tbX11_refusedAct = true := by decide +kernel
theorem kdX11_isColour : ckD cX11_isColour tbX11_isColour = true := by decide +kernel
theorem kdX11_isDegree : ckD cX11_isDegree tbX11_isDegree = true := by decide +kernel
theorem kdX11_ringOf : ckD cX11_ringOf tbX11_ringOf = true := by decide +kernel
theorem kdX11_studied : ckD cX11_studied tbX11_studied = true := by decide +kernel
theorem kdX11_reduciblePieces : ckD cX11_reduciblePieces tbX11_reduciblePieces = true := by decide +kernel
theorem kdX11_takeRow : ckD cX11_takeRow tbX11_takeRow = true := by decide +kernel
theorem kdX11_spotCharge : ckD cX11_spotCharge tbX11_spotCharge = true := by decide +kernel
theorem kdX11_piecesHeldBy : ckD cX11_piecesHeldBy tbX11_piecesHeldBy = true := by decide +kernel
theorem kdX11_chargeAhead : ckD cX11_chargeAhead tbX11_chargeAhead = true := by decide +kernel
theorem kdX11_chargeBehind : ckD cX11_chargeBehind tbX11_chargeBehind = true := by decide +kernel
theorem kdX11_positiveSpots : ckD cX11_positiveSpots tbX11_positiveSpots = true := by decide +kernel
theorem kdX11_openSpots : ckD cX11_openSpots tbX11_openSpots = true := by decide +kernel
theorem kdX11_findLacks : ckD cX11_findLacks tbX11_findLacks = true := by decide +kernel
theorem kdX11_findNets : ckD cX11_findNets tbX11_findNets = true := by decide +kernel
theorem kdX11_mendsLacks : ckD cX11_mendsLacks tbX11_mendsLacks = true := by decide +kernel
set_option maxRecDepth 100000 in
theorem ckC_11 : ckC pm_inf11 [tbX11_init, tbX11_feed, tbX11_atlas, tbX11_fault, tbX11_count, tbX11_piece, tbX11_vertex, tbX11_colour, tbX11_named, tbX11_level, tbX11_extend, tbX11_runs, tbX11_switched, tbX11_set, tbX11_sends, tbX11_hub, tbX11_cases, tbX11_spot, tbX11_scaled, tbX11_rule, tbX11_paint, tbX11_wash, tbX11_swap, tbX11_tune, tbX11_undo, tbX11_chain, tbX11_solve, tbX11_ways, tbX11_free, tbX11_play, tbX11_plan, tbX11_planned, tbX11_note, tbX11_forget, tbX11_meant, tbX11_years, tbX11_image, tbX11_restore, tbX11_putBytes, tbX11_takeTape, tbX11_pieceAt, tbX11_codeAt, tbX11_checkSpot, tbX11_checkRule, tbX11_refusedAct, tbX11_isColour, tbX11_isDegree, tbX11_ringOf, tbX11_studied, tbX11_reduciblePieces, tbX11_takeRow, tbX11_spotCharge, tbX11_piecesHeldBy, tbX11_chargeAhead, tbX11_chargeBehind, tbX11_positiveSpots, tbX11_openSpots, tbX11_findLacks, tbX11_findNets, tbX11_mendsLacks] = true := (ckC_cons kdX11_init (ckC_cons kdX11_feed (ckC_cons kdX11_atlas (ckC_cons kdX11_fault (ckC_cons kdX11_count (ckC_cons kdX11_piece (ckC_cons kdX11_vertex (ckC_cons kdX11_colour (ckC_cons kdX11_named (ckC_cons kdX11_level (ckC_cons kdX11_extend (ckC_cons kdX11_runs (ckC_cons kdX11_switched (ckC_cons kdX11_set (ckC_cons kdX11_sends (ckC_cons kdX11_hub (ckC_cons kdX11_cases (ckC_cons kdX11_spot (ckC_cons kdX11_scaled (ckC_cons kdX11_rule (ckC_cons kdX11_paint (ckC_cons kdX11_wash (ckC_cons kdX11_swap (ckC_cons kdX11_tune (ckC_cons kdX11_undo (ckC_cons kdX11_chain (ckC_cons kdX11_solve (ckC_cons kdX11_ways (ckC_cons kdX11_free (ckC_cons kdX11_play (ckC_cons kdX11_plan (ckC_cons kdX11_planned (ckC_cons kdX11_note (ckC_cons kdX11_forget (ckC_cons kdX11_meant (ckC_cons kdX11_years (ckC_cons kdX11_image (ckC_cons kdX11_restore (ckC_cons kdX11_putBytes (ckC_cons kdX11_takeTape (ckC_cons kdX11_pieceAt (ckC_cons kdX11_codeAt (ckC_cons kdX11_checkSpot (ckC_cons kdX11_checkRule (ckC_cons kdX11_refusedAct (ckC_cons kdX11_isColour (ckC_cons kdX11_isDegree (ckC_cons kdX11_ringOf (ckC_cons kdX11_studied (ckC_cons kdX11_reduciblePieces (ckC_cons kdX11_takeRow (ckC_cons kdX11_spotCharge (ckC_cons kdX11_piecesHeldBy (ckC_cons kdX11_chargeAhead (ckC_cons kdX11_chargeBehind (ckC_cons kdX11_positiveSpots (ckC_cons kdX11_openSpots (ckC_cons kdX11_findLacks (ckC_cons kdX11_findNets (ckC_cons kdX11_mendsLacks rfl))))))))))))))))))))))))))))))))))))))))))))))))))))))))))))
theorem kdX12_init : ckD cX12_init tbX12_init = true := by decide +kernel
theorem kdX12_thrown : ckD cX12_thrown tbX12_thrown = true := by decide +kernel
theorem kdX12_right : ckD cX12_right tbX12_right = true := by decide +kernel
theorem kdX12_within : ckD cX12_within tbX12_within = true := by decide +kernel
theorem kdX12_copies : ckD cX12_copies tbX12_copies = true := by decide +kernel
theorem kdX12_bits : ckD cX12_bits tbX12_bits = true := by decide +kernel
theorem kdX12_feed : ckD cX12_feed tbX12_feed = true := by decide +kernel
theorem kdX12_lays : ckD cX12_lays tbX12_lays = true := by decide +kernel
theorem kdX12_byteAt : ckD cX12_byteAt tbX12_byteAt = true := by decide +kernel
theorem kdX12_isLetter : ckD cX12_isLetter tbX12_isLetter = true := by decide +kernel
theorem kdX12_isDigit : ckD cX12_isDigit tbX12_isDigit = true := by decide +kernel
theorem kdX12_goes : ckD cX12_goes tbX12_goes = true := by decide +kernel
theorem kdX12_spelled : ckD cX12_spelled tbX12_spelled = true := by decide +kernel
theorem kdX12_letters : ckD cX12_letters tbX12_letters = true := by decide +kernel
theorem kdX12_knownWord : ckD cX12_knownWord tbX12_knownWord = true := by decide +kernel
theorem kdX12_wrong : ckD cX12_wrong tbX12_wrong = true := by decide +kernel
theorem kdX12_isGood : ckD cX12_isGood tbX12_isGood = true := by decide +kernel
theorem kdX12_need : ckD cX12_need tbX12_need = true := by decide +kernel
theorem kdX12_numberHere : ckD cX12_numberHere tbX12_numberHere = true := by decide +kernel
theorem kdX12_number : ckD cX12_number tbX12_number = true := by decide +kernel
theorem kdX12_begins : ckD cX12_begins tbX12_begins = true := by decide +kernel
theorem kdX12_outer : ckD cX12_outer tbX12_outer = true := by decide +kernel
theorem kdX12_border : ckD cX12_border tbX12_border = true := by decide +kernel
theorem kdX12_ringOf : ckD cX12_ringOf tbX12_ringOf = true := by decide +kernel
theorem kdX12_joins : ckD cX12_joins tbX12_joins = true := by decide +kernel
theorem kdX12_laysEdges : ckD cX12_laysEdges tbX12_laysEdges = true := by decide +kernel
theorem kdX12_readsPiece : ckD cX12_readsPiece tbX12_readsPiece = true := by decide +kernel
theorem kdX12_readsJoin : ckD cX12_readsJoin tbX12_readsJoin = true := by decide +kernel
theorem kdX12_readsRange : ckD cX12_readsRange tbX12_readsRange = true := by decide +kernel
theorem kdX12_readsRule : ckD cX12_readsRule tbX12_readsRule = true := by decide +kernel
theorem kdX12_readsSpot : ckD cX12_readsSpot tbX12_readsSpot = true := by decide +kernel
theorem kdX12_clause : ckD cX12_clause tbX12_clause = true := by decide +kernel
theorem kdX12_nearPlace : ckD cX12_nearPlace tbX12_nearPlace = true := by decide +kernel
theorem kdX12_nearOf : ckD cX12_nearOf tbX12_nearOf = true := by decide +kernel
theorem kdX12_isMap : ckD cX12_isMap tbX12_isMap = true := by decide +kernel
theorem kdX12_atlas : ckD cX12_atlas tbX12_atlas = true := by decide +kernel
theorem kdX12_fault : ckD cX12_fault tbX12_fault = true := by decide +kernel
theorem kdX12_ring : ckD cX12_ring tbX12_ring = true := by decide +kernel
theorem kdX12_vertices : ckD cX12_vertices tbX12_vertices = true := by decide +kernel
theorem kdX12_colourAt : ckD cX12_colourAt tbX12_colourAt = true := by decide +kernel
theorem kdX12_named0 : ckD cX12_named0 tbX12_named0 = true := by decide +kernel
theorem kdX12_isProper : ckD cX12_isProper tbX12_isProper = true := by decide +kernel
theorem kdX12_isJoin : ckD cX12_isJoin tbX12_isJoin = true := by decide +kernel
theorem kdX12_goesWith : ckD cX12_goesWith tbX12_goesWith = true := by decide +kernel
theorem kdX12_doesExtend : ckD cX12_doesExtend tbX12_doesExtend = true := by decide +kernel
theorem kdX12_laysPiece : ckD cX12_laysPiece tbX12_laysPiece = true := by decide +kernel
theorem kdX12_isFirst : ckD cX12_isFirst tbX12_isFirst = true := by decide +kernel
theorem kdX12_laysRuns : ckD cX12_laysRuns tbX12_laysRuns = true := by decide +kernel
theorem kdX12_otherOf : ckD cX12_otherOf tbX12_otherOf = true := by decide +kernel
theorem kdX12_switched0 : ckD cX12_switched0 tbX12_switched0 = true := by decide +kernel
theorem kdX12_firsts : ckD cX12_firsts tbX12_firsts = true := by decide +kernel
theorem kdX12_isFence : ckD cX12_isFence tbX12_isFence = true := by decide +kernel
theorem kdX12_areParted : ckD cX12_areParted tbX12_areParted = true := by decide +kernel
theorem kdX12_waysOf : ckD cX12_waysOf tbX12_waysOf = true := by decide +kernel
theorem kdX12_fences : ckD cX12_fences tbX12_fences = true := by decide +kernel
theorem kdX12_runsOf : ckD cX12_runsOf tbX12_runsOf = true := by decide +kernel
theorem kdX12_isLower : ckD cX12_isLower tbX12_isLower = true := by decide +kernel
theorem kdX12_isLed : ckD cX12_isLed tbX12_isLed = true := by decide +kernel
theorem kdX12_isPiece : ckD cX12_isPiece tbX12_isPiece = true := by decide +kernel
theorem kdX12_isColouring : ckD cX12_isColouring tbX12_isColouring = true := by decide +kernel
theorem kdX12_isWhat : ckD cX12_isWhat tbX12_isWhat = true := by decide +kernel
theorem kdX12_find : ckD cX12_find tbX12_find = true := by decide +kernel
theorem kdX12_sumOf : ckD cX12_sumOf tbX12_sumOf = true := by decide +kernel
theorem kdX12_badOnes : ckD cX12_badOnes tbX12_badOnes = true := by decide +kernel
theorem kdX12_rounds : ckD cX12_rounds tbX12_rounds = true := by decide +kernel
theorem kdX12_isC : ckD cX12_isC tbX12_isC = true := by decide +kernel
theorem kdX12_isReducible : ckD cX12_isReducible tbX12_isReducible = true := by decide +kernel
theorem kdX12_edgesOf : ckD cX12_edgesOf tbX12_edgesOf = true := by decide +kernel
theorem kdX12_piece : ckD cX12_piece tbX12_piece = true := by decide +kernel
theorem kdX12_vertex : ckD cX12_vertex tbX12_vertex = true := by decide +kernel
theorem kdX12_colour : ckD cX12_colour tbX12_colour = true := by decide +kernel
theorem kdX12_named : ckD cX12_named tbX12_named = true := by decide +kernel
theorem kdX12_level : ckD cX12_level tbX12_level = true := by decide +kernel
theorem kdX12_extend : ckD cX12_extend tbX12_extend = true := by decide +kernel
theorem kdX12_runs : ckD cX12_runs tbX12_runs = true := by decide +kernel
theorem kdX12_switched : ckD cX12_switched tbX12_switched = true := by decide +kernel
theorem kdX12_set : ckD cX12_set tbX12_set = true := by decide +kernel
theorem kdX12_isIn : ckD cX12_isIn tbX12_isIn = true := by decide +kernel
theorem kdX12_doesSend : ckD cX12_doesSend tbX12_doesSend = true := by decide +kernel
theorem kdX12_sends0 : ckD cX12_sends0 tbX12_sends0 = true := by decide +kernel
theorem kdX12_sends : ckD cX12_sends tbX12_sends = true := by decide +kernel
theorem kdX12_chargeBy : ckD cX12_chargeBy tbX12_chargeBy = true := by decide +kernel
theorem kdX12_doesHold : ckD cX12_doesHold tbX12_doesHold = true := by decide +kernel
theorem kdX12_holds : ckD cX12_holds tbX12_holds = true := by decide +kernel
theorem kdX12_isCovered : ckD cX12_isCovered tbX12_isCovered = true := by decide +kernel
theorem kdX12_hub : ckD cX12_hub tbX12_hub = true := by decide +kernel
theorem kdX12_isLeast : ckD cX12_isLeast tbX12_isLeast = true := by decide +kernel
theorem kdX12_cases : ckD cX12_cases tbX12_cases = true := by decide +kernel
theorem kdX12_rule : ckD cX12_rule tbX12_rule = true := by decide +kernel
theorem kdX12_keeps : ckD cX12_keeps tbX12_keeps = true := by decide +kernel
theorem kdX12_refuses : ckD cX12_refuses tbX12_refuses = true := by decide +kernel
theorem kdX12_undo : ckD cX12_undo tbX12_undo = true := by decide +kernel
theorem kdX12_tries : ckD cX12_tries tbX12_tries = true := by decide +kernel
theorem kdX12_degree : ckD cX12_degree tbX12_degree = true := by decide +kernel
theorem kdX12_nearOnes : ckD cX12_nearOnes tbX12_nearOnes = true := by decide +kernel
theorem kdX12_freeFor : ckD cX12_freeFor tbX12_freeFor = true := by decide +kernel
theorem kdX12_isFree : ckD cX12_isFree tbX12_isFree = true := by decide +kernel
theorem kdX12_laysNear : ckD cX12_laysNear tbX12_laysNear = true := by decide +kernel
theorem kdX12_behind : ckD cX12_behind tbX12_behind = true := by decide +kernel
theorem kdX12_holdsAt : ckD cX12_holdsAt tbX12_holdsAt = true := by decide +kernel
theorem kdX12_painted : ckD cX12_painted tbX12_painted = true := by decide +kernel
theorem kdX12_openOnes : ckD cX12_openOnes tbX12_openOnes = true := by decide +kernel
theorem kdX12_chargeAll : ckD cX12_chargeAll tbX12_chargeAll = true := by decide +kernel
theorem kdX12_count : ckD cX12_count tbX12_count = true := by decide +kernel
theorem kdX12_isSpot : ckD cX12_isSpot tbX12_isSpot = true := by decide +kernel
theorem kdX12_spot : ckD cX12_spot tbX12_spot = true := by decide +kernel
theorem kdX12_scaled : ckD cX12_scaled tbX12_scaled = true := by decide +kernel
theorem kdX12_chainOf : ckD cX12_chainOf tbX12_chainOf = true := by decide +kernel
theorem kdX12_canSwap : ckD cX12_canSwap tbX12_canSwap = true := by decide +kernel
theorem kdX12_swaps : ckD cX12_swaps tbX12_swaps = true := by decide +kernel
theorem kdX12_canPaint : ckD cX12_canPaint tbX12_canPaint = true := by decide +kernel
theorem kdX12_paint : ckD cX12_paint tbX12_paint = true := by decide +kernel
theorem kdX12_wash : ckD cX12_wash tbX12_wash = true := by decide +kernel
theorem kdX12_swap : ckD cX12_swap tbX12_swap = true := by decide +kernel
theorem kdX12_tune : ckD cX12_tune tbX12_tune = true := by decide +kernel
theorem kdX12_chain : ckD cX12_chain tbX12_chain = true := by decide +kernel
theorem kdX12_laysOpen : ckD cX12_laysOpen tbX12_laysOpen = true := by decide +kernel
theorem kdX12_solves : ckD cX12_solves tbX12_solves = true := by decide +kernel
theorem kdX12_solve : ckD cX12_solve tbX12_solve = true := by decide +kernel
theorem kdX12_ways : ckD cX12_ways tbX12_ways = true := by decide +kernel
theorem kdX12_isFreed : ckD cX12_isFreed tbX12_isFreed = true := by decide +kernel
theorem kdX12_free : ckD cX12_free tbX12_free = true := by decide +kernel
theorem kdX12_figureOf : ckD cX12_figureOf tbX12_figureOf = true := by decide +kernel
theorem kdX12_step5 : ckD cX12_step5 tbX12_step5 = true := by decide +kernel
theorem kdX12_laysGame : ckD cX12_laysGame tbX12_laysGame = true := by decide +kernel
theorem kdX12_play : ckD cX12_play tbX12_play = true := by decide +kernel
theorem kdX12_laysSheet : ckD cX12_laysSheet tbX12_laysSheet = true := by decide +kernel
theorem kdX12_takesOff : ckD cX12_takesOff tbX12_takesOff = true := by decide +kernel
theorem kdX12_isHere : ckD cX12_isHere tbX12_isHere = true := by decide +kernel
theorem kdX12_isDone : ckD cX12_isDone tbX12_isDone = true := by decide +kernel
theorem kdX12_smallNumber : ckD cX12_smallNumber tbX12_smallNumber = true := by decide +kernel
theorem kdX12_stepOf : ckD cX12_stepOf tbX12_stepOf = true := by decide +kernel
theorem kdX12_plan : ckD cX12_plan tbX12_plan = true := by decide +kernel
theorem kdX12_planned : ckD cX12_planned tbX12_planned = true := by decide +kernel
theorem kdX12_note : ckD cX12_note tbX12_note = true := by decide +kernel
theorem kdX12_forget : ckD cX12_forget tbX12_forget = true := by decide +kernel
theorem kdX12_isNoted : ckD cX12_isNoted tbX12_isNoted = true := by decide +kernel
theorem kdX12_meant : ckD cX12_meant tbX12_meant = true := by decide +kernel
theorem kdX12_draw : ckD cX12_draw tbX12_draw = true := by decide +kernel
theorem kdX12_happens : ckD cX12_happens tbX12_happens = true := by decide +kernel
theorem kdX12_years : ckD cX12_years tbX12_years = true := by decide +kernel
theorem kdX12_image : ckD cX12_image tbX12_image = true := by decide +kernel
theorem kdX12_restore : ckD cX12_restore tbX12_restore = true := by decide +kernel
set_option maxRecDepth 100000 in
theorem ckC_12 : ckC pm_inf12 [tbX12_init, tbX12_thrown, tbX12_right, tbX12_within, tbX12_copies, tbX12_bits, tbX12_feed, tbX12_lays, tbX12_byteAt, tbX12_isLetter, tbX12_isDigit, tbX12_goes, tbX12_spelled, tbX12_letters, tbX12_knownWord, tbX12_wrong, tbX12_isGood, tbX12_need, tbX12_numberHere, tbX12_number, tbX12_begins, tbX12_outer, tbX12_border, tbX12_ringOf, tbX12_joins, tbX12_laysEdges, tbX12_readsPiece, tbX12_readsJoin, tbX12_readsRange, tbX12_readsRule, tbX12_readsSpot, tbX12_clause, tbX12_nearPlace, tbX12_nearOf, tbX12_isMap, tbX12_atlas, tbX12_fault, tbX12_ring, tbX12_vertices, tbX12_colourAt, tbX12_named0, tbX12_isProper, tbX12_isJoin, tbX12_goesWith, tbX12_doesExtend, tbX12_laysPiece, tbX12_isFirst, tbX12_laysRuns, tbX12_otherOf, tbX12_switched0, tbX12_firsts, tbX12_isFence, tbX12_areParted, tbX12_waysOf, tbX12_fences, tbX12_runsOf, tbX12_isLower, tbX12_isLed, tbX12_isPiece, tbX12_isColouring, tbX12_isWhat, tbX12_find, tbX12_sumOf, tbX12_badOnes, tbX12_rounds, tbX12_isC, tbX12_isReducible, tbX12_edgesOf, tbX12_piece, tbX12_vertex, tbX12_colour, tbX12_named, tbX12_level, tbX12_extend, tbX12_runs, tbX12_switched, tbX12_set, tbX12_isIn, tbX12_doesSend, tbX12_sends0, tbX12_sends, tbX12_chargeBy, tbX12_doesHold, tbX12_holds, tbX12_isCovered, tbX12_hub, tbX12_isLeast, tbX12_cases, tbX12_rule, tbX12_keeps, tbX12_refuses, tbX12_undo, tbX12_tries, tbX12_degree, tbX12_nearOnes, tbX12_freeFor, tbX12_isFree, tbX12_laysNear, tbX12_behind, tbX12_holdsAt, tbX12_painted, tbX12_openOnes, tbX12_chargeAll, tbX12_count, tbX12_isSpot, tbX12_spot, tbX12_scaled, tbX12_chainOf, tbX12_canSwap, tbX12_swaps, tbX12_canPaint, tbX12_paint, tbX12_wash, tbX12_swap, tbX12_tune, tbX12_chain, tbX12_laysOpen, tbX12_solves, tbX12_solve, tbX12_ways, tbX12_isFreed, tbX12_free, tbX12_figureOf, tbX12_step5, tbX12_laysGame, tbX12_play, tbX12_laysSheet, tbX12_takesOff, tbX12_isHere, tbX12_isDone, tbX12_smallNumber, tbX12_stepOf, tbX12_plan, tbX12_planned, tbX12_note, tbX12_forget, tbX12_isNoted, tbX12_meant, tbX12_draw, tbX12_happens, tbX12_years, tbX12_image, tbX12_restore] = true := (ckC_cons kdX12_init (ckC_cons kdX12_thrown (ckC_cons kdX12_right (ckC_cons kdX12_within (ckC_cons kdX12_copies (ckC_cons kdX12_bits (ckC_cons kdX12_feed (ckC_cons kdX12_lays (ckC_cons kdX12_byteAt (ckC_cons kdX12_isLetter (ckC_cons kdX12_isDigit (ckC_cons kdX12_goes (ckC_cons kdX12_spelled (ckC_cons kdX12_letters (ckC_cons kdX12_knownWord (ckC_cons kdX12_wrong (ckC_cons kdX12_isGood (ckC_cons kdX12_need (ckC_cons kdX12_numberHere (ckC_cons kdX12_number (ckC_cons kdX12_begins (ckC_cons kdX12_outer (ckC_cons kdX12_border (ckC_cons kdX12_ringOf (ckC_cons kdX12_joins (ckC_cons kdX12_laysEdges (ckC_cons kdX12_readsPiece (ckC_cons kdX12_readsJoin (ckC_cons kdX12_readsRange (ckC_cons kdX12_readsRule (ckC_cons kdX12_readsSpot (ckC_cons kdX12_clause (ckC_cons kdX12_nearPlace (ckC_cons kdX12_nearOf (ckC_cons kdX12_isMap (ckC_cons kdX12_atlas (ckC_cons kdX12_fault (ckC_cons kdX12_ring (ckC_cons kdX12_vertices (ckC_cons kdX12_colourAt (ckC_cons kdX12_named0 (ckC_cons kdX12_isProper (ckC_cons kdX12_isJoin (ckC_cons kdX12_goesWith (ckC_cons kdX12_doesExtend (ckC_cons kdX12_laysPiece (ckC_cons kdX12_isFirst (ckC_cons kdX12_laysRuns (ckC_cons kdX12_otherOf (ckC_cons kdX12_switched0 (ckC_cons kdX12_firsts (ckC_cons kdX12_isFence (ckC_cons kdX12_areParted (ckC_cons kdX12_waysOf (ckC_cons kdX12_fences (ckC_cons kdX12_runsOf (ckC_cons kdX12_isLower (ckC_cons kdX12_isLed (ckC_cons kdX12_isPiece (ckC_cons kdX12_isColouring (ckC_cons kdX12_isWhat (ckC_cons kdX12_find (ckC_cons kdX12_sumOf (ckC_cons kdX12_badOnes (ckC_cons kdX12_rounds (ckC_cons kdX12_isC (ckC_cons kdX12_isReducible (ckC_cons kdX12_edgesOf (ckC_cons kdX12_piece (ckC_cons kdX12_vertex (ckC_cons kdX12_colour (ckC_cons kdX12_named (ckC_cons kdX12_level (ckC_cons kdX12_extend (ckC_cons kdX12_runs (ckC_cons kdX12_switched (ckC_cons kdX12_set (ckC_cons kdX12_isIn (ckC_cons kdX12_doesSend (ckC_cons kdX12_sends0 (ckC_cons kdX12_sends (ckC_cons kdX12_chargeBy (ckC_cons kdX12_doesHold (ckC_cons kdX12_holds (ckC_cons kdX12_isCovered (ckC_cons kdX12_hub (ckC_cons kdX12_isLeast (ckC_cons kdX12_cases (ckC_cons kdX12_rule (ckC_cons kdX12_keeps (ckC_cons kdX12_refuses (ckC_cons kdX12_undo (ckC_cons kdX12_tries (ckC_cons kdX12_degree (ckC_cons kdX12_nearOnes (ckC_cons kdX12_freeFor (ckC_cons kdX12_isFree (ckC_cons kdX12_laysNear (ckC_cons kdX12_behind (ckC_cons kdX12_holdsAt (ckC_cons kdX12_painted (ckC_cons kdX12_openOnes (ckC_cons kdX12_chargeAll (ckC_cons kdX12_count (ckC_cons kdX12_isSpot (ckC_cons kdX12_spot (ckC_cons kdX12_scaled (ckC_cons kdX12_chainOf (ckC_cons kdX12_canSwap (ckC_cons kdX12_swaps (ckC_cons kdX12_canPaint (ckC_cons kdX12_paint (ckC_cons kdX12_wash (ckC_cons kdX12_swap (ckC_cons kdX12_tune (ckC_cons kdX12_chain (ckC_cons kdX12_laysOpen (ckC_cons kdX12_solves (ckC_cons kdX12_solve (ckC_cons kdX12_ways (ckC_cons kdX12_isFreed (ckC_cons kdX12_free (ckC_cons kdX12_figureOf (ckC_cons kdX12_step5 (ckC_cons kdX12_laysGame (ckC_cons kdX12_play (ckC_cons kdX12_laysSheet (ckC_cons kdX12_takesOff (ckC_cons kdX12_isHere (ckC_cons kdX12_isDone (ckC_cons kdX12_smallNumber (ckC_cons kdX12_stepOf (ckC_cons kdX12_plan (ckC_cons kdX12_planned (ckC_cons kdX12_note (ckC_cons kdX12_forget (ckC_cons kdX12_isNoted (ckC_cons kdX12_meant (ckC_cons kdX12_draw (ckC_cons kdX12_happens (ckC_cons kdX12_years (ckC_cons kdX12_image (ckC_cons kdX12_restore rfl)))))))))))))))))))))))))))))))))))))))))))))))))))))))))))))))))))))))))))))))))))))))))))))))))))))))))))))))))))))))))))))))))))))))))))))))
theorem kdL_atlas : ckD cL_atlas tbL_atlas = true := by decide +kernel
theorem kdL_count : ckD cL_count tbL_count = true := by decide +kernel
theorem kdL_piece : ckD cL_piece tbL_piece = true := by decide +kernel
theorem kdL_vertex : ckD cL_vertex tbL_vertex = true := by decide +kernel
theorem kdL_colour : ckD cL_colour tbL_colour = true := by decide +kernel
theorem kdL_named : ckD cL_named tbL_named = true := by decide +kernel
theorem kdL_level : ckD cL_level tbL_level = true := by decide +kernel
theorem kdL_extend : ckD cL_extend tbL_extend = true := by decide +kernel
theorem kdL_runs : ckD cL_runs tbL_runs = true := by decide +kernel
theorem kdL_switched : ckD cL_switched tbL_switched = true := by decide +kernel
theorem kdL_set : ckD cL_set tbL_set = true := by decide +kernel
theorem kdL_sends : ckD cL_sends tbL_sends = true := by decide +kernel
theorem kdL_hub : ckD cL_hub tbL_hub = true := by decide +kernel
theorem kdL_cases : ckD cL_cases tbL_cases = true := by decide +kernel
theorem kdL_spot : ckD cL_spot tbL_spot = true := by decide +kernel
theorem kdL_scaled : ckD cL_scaled tbL_scaled = true := by decide +kernel
theorem kdL_rule : ckD cL_rule tbL_rule = true := by decide +kernel
theorem kdL_paint : ckD cL_paint tbL_paint = true := by decide +kernel
theorem kdL_wash : ckD cL_wash tbL_wash = true := by decide +kernel
theorem kdL_swap : ckD cL_swap tbL_swap = true := by decide +kernel
theorem kdL_tune : ckD cL_tune tbL_tune = true := by decide +kernel
theorem kdL_chain : ckD cL_chain tbL_chain = true := by decide +kernel
theorem kdL_solve : ckD cL_solve tbL_solve = true := by decide +kernel
theorem kdL_free : ckD cL_free tbL_free = true := by decide +kernel
theorem kdL_play : ckD cL_play tbL_play = true := by decide +kernel
theorem kdL_plan : ckD cL_plan tbL_plan = true := by decide +kernel
theorem kdL_planned : ckD cL_planned tbL_planned = true := by decide +kernel
theorem kdL_note : ckD cL_note tbL_note = true := by decide +kernel
theorem kdL_meant : ckD cL_meant tbL_meant = true := by decide +kernel
theorem kdL_years : ckD cL_years tbL_years = true := by decide +kernel
theorem kdJ0_length_8abf5 : ckD cJ0_length_8abf5 tbJ0_length_8abf5 = true := by decide +kernel
theorem kdJ0_charAt_5068e : ckD cJ0_charAt_5068e tbJ0_charAt_5068e = true := by decide +kernel
theorem kdJ0_coder_7d493 : ckD cJ0_coder_7d493 tbJ0_coder_7d493 = true := by decide +kernel
theorem kdJ0_isLatin1_aae02 : ckD cJ0_isLatin1_aae02 tbJ0_isLatin1_aae02 = true := by decide +kernel
theorem kdJ0_checkIndex_df160 : ckD cJ0_checkIndex_df160 tbJ0_checkIndex_df160 = true := by decide +kernel
set_option maxRecDepth 100000 in
theorem ckC_14 : ckC pm_inf14 [tbJ0_length_8abf5, tbJ0_charAt_5068e, tbJ0_coder_7d493, tbJ0_isLatin1_aae02, tbJ0_checkIndex_df160] = true := (ckC_cons kdJ0_length_8abf5 (ckC_cons kdJ0_charAt_5068e (ckC_cons kdJ0_coder_7d493 (ckC_cons kdJ0_isLatin1_aae02 (ckC_cons kdJ0_checkIndex_df160 rfl)))))
theorem kdJ1_charAt_3b067 : ckD cJ1_charAt_3b067 tbJ1_charAt_3b067 = true := by decide +kernel
set_option maxRecDepth 100000 in
theorem ckC_15 : ckC pm_inf15 [tbJ1_charAt_3b067] = true := (ckC_cons kdJ1_charAt_3b067 rfl)
theorem kdJ6_bitCount_0f7a4 : ckD cJ6_bitCount_0f7a4 tbJ6_bitCount_0f7a4 = true := by decide +kernel
set_option maxRecDepth 100000 in
theorem ckC_16 : ckC pm_inf16 [tbJ6_bitCount_0f7a4] = true := (ckC_cons kdJ6_bitCount_0f7a4 rfl)
theorem kdJ7_fill_53178 : ckD cJ7_fill_53178 tbJ7_fill_53178 = true := by decide +kernel
set_option maxRecDepth 100000 in
theorem ckC_17 : ckC pm_inf17 [tbJ7_fill_53178] = true := (ckC_cons kdJ7_fill_53178 rfl)
set_option maxRecDepth 100000 in
theorem ckC_18 : ckC pm_inf18 [] = true := rfl
theorem kdJ3_checkIndex_8e157 : ckD cJ3_checkIndex_8e157 tbJ3_checkIndex_8e157 = true := by decide +kernel
set_option maxRecDepth 100000 in
theorem ckC_19 : ckC pm_inf19 [tbJ3_checkIndex_8e157] = true := (ckC_cons kdJ3_checkIndex_8e157 rfl)
end
