/-! the tables are the methods, by program -/
theorem aq_okK0 : aq_okK (RX0, TX0, 12) := ⟨by decide +kernel, by decide +kernel, by decide +kernel⟩
theorem aq_okK1 : aq_okK (RX1, TX1, 13) := ⟨by decide +kernel, by decide +kernel, by decide +kernel⟩
theorem aq_cls : ∀ (ci : Nat) (r : vw_C), vwCl[ci]? = some r → aq_okK r := by
  intro ci r h
  match ci, h with
  | 0, h => cases h; exact aq_okK0
  | 1, h => cases h; exact aq_okK1
  | k + 2, h => simp [vwCl] at h
theorem ok_m_init : aq_okM m_init = true := by decide +kernel
theorem pl_m_count : plainFor (aq_y m_count) = true := by decide +kernel
theorem ok_m_count : aq_okM m_count = true := by decide +kernel
theorem pl_m_inState : plainFor (aq_y m_inState) = true := by decide +kernel
theorem ok_m_inState : aq_okM m_inState = true := by decide +kernel
theorem pl_m_astray : plainFor (aq_y m_astray) = true := by decide +kernel
theorem ok_m_astray : aq_okM m_astray = true := by decide +kernel
theorem pl_m_holdersClash : plainFor (aq_y m_holdersClash) = true := by decide +kernel
theorem ok_m_holdersClash : aq_okM m_holdersClash = true := by decide +kernel
theorem pl_j_numberOfTrailingZeros : plainFor (aq_y j_numberOfTrailingZeros) = true := by decide +kernel
theorem ok_j_numberOfTrailingZeros : aq_okM j_numberOfTrailingZeros = true := by decide +kernel
theorem pl_i_numberOfTrailingZeros : plainFor (aq_y i_numberOfTrailingZeros) = true := by decide +kernel
theorem ok_i_numberOfTrailingZeros : aq_okM i_numberOfTrailingZeros = true := by decide +kernel
theorem pl_m_othersInTheWay : plainFor (aq_y m_othersInTheWay) = true := by decide +kernel
theorem ok_m_othersInTheWay : aq_okM m_othersInTheWay = true := by decide +kernel
theorem pl_m_goTogether : plainFor (aq_y m_goTogether) = true := by decide +kernel
theorem ok_m_goTogether : aq_okM m_goTogether = true := by decide +kernel
theorem pl_m_bit : plainFor (aq_y m_bit) = true := by decide +kernel
theorem ok_m_bit : aq_okM m_bit = true := by decide +kernel
theorem pl_m_firstToGrant : plainFor (aq_y m_firstToGrant) = true := by decide +kernel
theorem ok_m_firstToGrant : aq_okM m_firstToGrant = true := by decide +kernel
theorem pl_m_inQueue : plainFor (aq_y m_inQueue) = true := by decide +kernel
theorem ok_m_inQueue : aq_okM m_inQueue = true := by decide +kernel
theorem pl_m_begin : plainFor (aq_y m_begin) = true := by decide +kernel
theorem ok_m_begin : aq_okM m_begin = true := by decide +kernel
theorem pl_m_lock : plainFor (aq_y m_lock) = true := by decide +kernel
theorem ok_m_lock : aq_okM m_lock = true := by decide +kernel
theorem pl_m_checkTransaction : plainFor (aq_y m_checkTransaction) = true := by decide +kernel
theorem ok_m_checkTransaction : aq_okM m_checkTransaction = true := by decide +kernel
theorem pl_m_checkObject : plainFor (aq_y m_checkObject) = true := by decide +kernel
theorem ok_m_checkObject : aq_okM m_checkObject = true := by decide +kernel
theorem pl_m_checkActive : plainFor (aq_y m_checkActive) = true := by decide +kernel
theorem ok_m_checkActive : aq_okM m_checkActive = true := by decide +kernel
theorem pl_m_mayAsk : plainFor (aq_y m_mayAsk) = true := by decide +kernel
theorem ok_m_mayAsk : aq_okM m_mayAsk = true := by decide +kernel
theorem pl_m_above : plainFor (aq_y m_above) = true := by decide +kernel
theorem ok_m_above : aq_okM m_above = true := by decide +kernel
theorem pl_j_floorDiv : plainFor (aq_y j_floorDiv) = true := by decide +kernel
theorem ok_j_floorDiv : aq_okM j_floorDiv = true := by decide +kernel
theorem pl_m_heldMode : plainFor (aq_y m_heldMode) = true := by decide +kernel
theorem ok_m_heldMode : aq_okM m_heldMode = true := by decide +kernel
theorem pl_m_isWriting : plainFor (aq_y m_isWriting) = true := by decide +kernel
theorem ok_m_isWriting : aq_okM m_isWriting = true := by decide +kernel
theorem pl_m_leastAbove : plainFor (aq_y m_leastAbove) = true := by decide +kernel
theorem ok_m_leastAbove : aq_okM m_leastAbove = true := by decide +kernel
theorem pl_j_max : plainFor (aq_y j_max) = true := by decide +kernel
theorem ok_j_max : aq_okM j_max = true := by decide +kernel
theorem pl_m_joinQueue : plainFor (aq_y m_joinQueue) = true := by decide +kernel
theorem ok_m_joinQueue : aq_okM m_joinQueue = true := by decide +kernel
theorem pl_m_placeOfNewcomers : plainFor (aq_y m_placeOfNewcomers) = true := by decide +kernel
theorem ok_m_placeOfNewcomers : aq_okM m_placeOfNewcomers = true := by decide +kernel
theorem pl_m_serve : plainFor (aq_y m_serve) = true := by decide +kernel
theorem ok_m_serve : aq_okM m_serve = true := by decide +kernel
theorem pl_m_grant : plainFor (aq_y m_grant) = true := by decide +kernel
theorem ok_m_grant : aq_okM m_grant = true := by decide +kernel
theorem pl_m_hold : plainFor (aq_y m_hold) = true := by decide +kernel
theorem ok_m_hold : aq_okM m_hold = true := by decide +kernel
theorem pl_m_leaveQueue : plainFor (aq_y m_leaveQueue) = true := by decide +kernel
theorem ok_m_leaveQueue : aq_okM m_leaveQueue = true := by decide +kernel
theorem pl_m_breakCircles : plainFor (aq_y m_breakCircles) = true := by decide +kernel
theorem ok_m_breakCircles : aq_okM m_breakCircles = true := by decide +kernel
theorem pl_m_circleOf : plainFor (aq_y m_circleOf) = true := by decide +kernel
theorem ok_m_circleOf : aq_okM m_circleOf = true := by decide +kernel
theorem pl_m_waitRow : plainFor (aq_y m_waitRow) = true := by decide +kernel
theorem ok_m_waitRow : aq_okM m_waitRow = true := by decide +kernel
theorem pl_m_standingBefore : plainFor (aq_y m_standingBefore) = true := by decide +kernel
theorem ok_m_standingBefore : aq_okM m_standingBefore = true := by decide +kernel
theorem pl_m_reachedFrom : plainFor (aq_y m_reachedFrom) = true := by decide +kernel
theorem ok_m_reachedFrom : aq_okM m_reachedFrom = true := by decide +kernel
theorem pl_m_reaching : plainFor (aq_y m_reaching) = true := by decide +kernel
theorem ok_m_reaching : aq_okM m_reaching = true := by decide +kernel
theorem pl_m_weakestOf : plainFor (aq_y m_weakestOf) = true := by decide +kernel
theorem ok_m_weakestOf : aq_okM m_weakestOf = true := by decide +kernel
theorem pl_m_end : plainFor (aq_y m_end) = true := by decide +kernel
theorem ok_m_end : aq_okM m_end = true := by decide +kernel
theorem pl_m_letGo : plainFor (aq_y m_letGo) = true := by decide +kernel
theorem ok_m_letGo : aq_okM m_letGo = true := by decide +kernel
theorem pl_m_answerFor : plainFor (aq_y m_answerFor) = true := by decide +kernel
theorem ok_m_answerFor : aq_okM m_answerFor = true := by decide +kernel
theorem pl_m_commit : plainFor (aq_y m_commit) = true := by decide +kernel
theorem ok_m_commit : aq_okM m_commit = true := by decide +kernel
theorem pl_m_abort : plainFor (aq_y m_abort) = true := by decide +kernel
theorem ok_m_abort : aq_okM m_abort = true := by decide +kernel
theorem pl_m_escalate : plainFor (aq_y m_escalate) = true := by decide +kernel
theorem ok_m_escalate : aq_okM m_escalate = true := by decide +kernel
theorem pl_m_writesBelow : plainFor (aq_y m_writesBelow) = true := by decide +kernel
theorem ok_m_writesBelow : aq_okM m_writesBelow = true := by decide +kernel
theorem pl_m_isBelow : plainFor (aq_y m_isBelow) = true := by decide +kernel
theorem ok_m_isBelow : aq_okM m_isBelow = true := by decide +kernel
theorem pl_m_dropBelow : plainFor (aq_y m_dropBelow) = true := by decide +kernel
theorem ok_m_dropBelow : aq_okM m_dropBelow = true := by decide +kernel
theorem pl_m_mode : plainFor (aq_y m_mode) = true := by decide +kernel
theorem ok_m_mode : aq_okM m_mode = true := by decide +kernel
theorem pl_m_told : plainFor (aq_y m_told) = true := by decide +kernel
theorem ok_m_told : aq_okM m_told = true := by decide +kernel
theorem pl_m_heldObjects : plainFor (aq_y m_heldObjects) = true := by decide +kernel
theorem ok_m_heldObjects : aq_okM m_heldObjects = true := by decide +kernel
theorem pl_m_many : plainFor (aq_y m_many) = true := by decide +kernel
theorem ok_m_many : aq_okM m_many = true := by decide +kernel
theorem pl_m_queueLength : plainFor (aq_y m_queueLength) = true := by decide +kernel
theorem ok_m_queueLength : aq_okM m_queueLength = true := by decide +kernel
theorem pl_m_allHolders : plainFor (aq_y m_allHolders) = true := by decide +kernel
theorem ok_m_allHolders : aq_okM m_allHolders = true := by decide +kernel
theorem pl_j_bitCount : plainFor (aq_y j_bitCount) = true := by decide +kernel
theorem ok_j_bitCount : aq_okM j_bitCount = true := by decide +kernel
theorem pl_m_at : plainFor (aq_y m_at) = true := by decide +kernel
theorem ok_m_at : aq_okM m_at = true := by decide +kernel
theorem pl_m_amongHolders : plainFor (aq_y m_amongHolders) = true := by decide +kernel
theorem ok_m_amongHolders : aq_okM m_amongHolders = true := by decide +kernel
theorem pl_m_waitsFor : plainFor (aq_y m_waitsFor) = true := by decide +kernel
theorem ok_m_waitsFor : aq_okM m_waitsFor = true := by decide +kernel
theorem ok_r_init : aq_okM r_init = true := by decide +kernel
theorem pl_r_thrown : plainFor (aq_y r_thrown) = true := by decide +kernel
theorem ok_r_thrown : aq_okM r_thrown = true := by decide +kernel
theorem pl_r_begin : plainFor (aq_y r_begin) = true := by decide +kernel
theorem ok_r_begin : aq_okM r_begin = true := by decide +kernel
theorem pl_r_lock : plainFor (aq_y r_lock) = true := by decide +kernel
theorem ok_r_lock : aq_okM r_lock = true := by decide +kernel
theorem pl_r_isTransaction : plainFor (aq_y r_isTransaction) = true := by decide +kernel
theorem ok_r_isTransaction : aq_okM r_isTransaction = true := by decide +kernel
theorem pl_r_isObject : plainFor (aq_y r_isObject) = true := by decide +kernel
theorem ok_r_isObject : aq_okM r_isObject = true := by decide +kernel
theorem pl_r_modeOf : plainFor (aq_y r_modeOf) = true := by decide +kernel
theorem ok_r_modeOf : aq_okM r_modeOf = true := by decide +kernel
theorem pl_r_isWriting : plainFor (aq_y r_isWriting) = true := by decide +kernel
theorem ok_r_isWriting : aq_okM r_isWriting = true := by decide +kernel
theorem pl_r_leastAbove : plainFor (aq_y r_leastAbove) = true := by decide +kernel
theorem ok_r_leastAbove : aq_okM r_leastAbove = true := by decide +kernel
theorem pl_r_enqueue : plainFor (aq_y r_enqueue) = true := by decide +kernel
theorem ok_r_enqueue : aq_okM r_enqueue = true := by decide +kernel
theorem pl_r_serve : plainFor (aq_y r_serve) = true := by decide +kernel
theorem ok_r_serve : aq_okM r_serve = true := by decide +kernel
theorem pl_r_fits : plainFor (aq_y r_fits) = true := by decide +kernel
theorem ok_r_fits : aq_okM r_fits = true := by decide +kernel
theorem pl_r_together : plainFor (aq_y r_together) = true := by decide +kernel
theorem ok_r_together : aq_okM r_together = true := by decide +kernel
theorem pl_r_dequeue : plainFor (aq_y r_dequeue) = true := by decide +kernel
theorem ok_r_dequeue : aq_okM r_dequeue = true := by decide +kernel
theorem pl_r_victimOf : plainFor (aq_y r_victimOf) = true := by decide +kernel
theorem ok_r_victimOf : aq_okM r_victimOf = true := by decide +kernel
theorem pl_r_reach : plainFor (aq_y r_reach) = true := by decide +kernel
theorem ok_r_reach : aq_okM r_reach = true := by decide +kernel
theorem pl_r_waitBits : plainFor (aq_y r_waitBits) = true := by decide +kernel
theorem ok_r_waitBits : aq_okM r_waitBits = true := by decide +kernel
theorem pl_r_endIt : plainFor (aq_y r_endIt) = true := by decide +kernel
theorem ok_r_endIt : aq_okM r_endIt = true := by decide +kernel
theorem pl_r_commit : plainFor (aq_y r_commit) = true := by decide +kernel
theorem ok_r_commit : aq_okM r_commit = true := by decide +kernel
theorem pl_r_abort : plainFor (aq_y r_abort) = true := by decide +kernel
theorem ok_r_abort : aq_okM r_abort = true := by decide +kernel
theorem pl_r_escalate : plainFor (aq_y r_escalate) = true := by decide +kernel
theorem ok_r_escalate : aq_okM r_escalate = true := by decide +kernel
theorem pl_r_isBelow : plainFor (aq_y r_isBelow) = true := by decide +kernel
theorem ok_r_isBelow : aq_okM r_isBelow = true := by decide +kernel
theorem pl_r_mode : plainFor (aq_y r_mode) = true := by decide +kernel
theorem ok_r_mode : aq_okM r_mode = true := by decide +kernel
theorem pl_r_told : plainFor (aq_y r_told) = true := by decide +kernel
theorem ok_r_told : aq_okM r_told = true := by decide +kernel
theorem pl_r_many : plainFor (aq_y r_many) = true := by decide +kernel
theorem ok_r_many : aq_okM r_many = true := by decide +kernel
theorem pl_r_at : plainFor (aq_y r_at) = true := by decide +kernel
theorem ok_r_at : aq_okM r_at = true := by decide +kernel
theorem pl_r_waitsFor : plainFor (aq_y r_waitsFor) = true := by decide +kernel
theorem ok_r_waitsFor : aq_okM r_waitsFor = true := by decide +kernel
theorem pl_r_count : plainFor (aq_y r_count) = true := by decide +kernel
theorem ok_r_count : aq_okM r_count = true := by decide +kernel
theorem pl_r_astray : plainFor (aq_y r_astray) = true := by decide +kernel
theorem ok_r_astray : aq_okM r_astray = true := by decide +kernel
