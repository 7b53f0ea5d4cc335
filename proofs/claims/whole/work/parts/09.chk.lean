/-! what the tables say is so -/
def mNL : List MethodName := [yX0_size, yX0_hasRoom, yX0_append, yX0_readAll, yX0_statement, yX0_memberStatement, yX0_voteStatement, yX0_heldStatement, yX0_partyStatement, yX0_fail, yX0_next, yX0_letter, yX0_expect, yX0_word, yX0_digit, yX0_number, yX1_copyFrom, yX1_members, yX1_votes, yX1_held, yX1_isMember, yX1_isVote, yX1_hasRoomForMember, yX1_hasRoomForVote, yX1_hasRoomForHeld, yX1_everyone, yX1_thoseOfYear, yX1_addMember, yX1_changeParty, yX1_addVote, yX1_dropVote, yX1_isHeld, yX1_addHeld, yX1_dropHeld, yX1_heldEnds, yX1_heldBeside, yX1_partyOf, yX1_yearOf, yX1_yesOf, yX1_noOf, yX1_words, yX1_xOf, yX1_yOf, yX1_bring, yX2_at, yX2_with, yX2_without, yX2_firstOnes, yX2_bestCut, yX2_placeOfCut, yX2_yesIsLeft, yX3_booksWithin, yX3_wrongOfNextBook, yX3_deal, yX4_find, yX4_fall, yX4_whose, yX4_since, yX4_whither, yX4_code, yX4_tryMove, yX4_noteFalls, yX5_forgetWrongs, yX5_forgetBest, yX5_bestOnes, yX5_leastWrong, yX5_bestAt, yX5_openOnes, yX5_leastWrongOf, yX5_knotted, yX5_findKnot, yX5_lowestThatCannotJoin, yX5_sift, yX5_noteHeld, yX5_isAsHeld, yX5_judgeAll, yX5_listAll, yX5_extend, yX5_extend, yX5_extend, yX5_extend, yX5_extend, yX5_extend, yX5_extend, yX5_extend, yX5_extend, yX5_keep, yX6_total, yX6_bestLine, yX6_moveAll, yX6_moveOne, yX6_noteStanding, yX6_measure, yX7_forget, yX7_refresh, yX7_start, yX7_meet, yX7_walk, yX7_total, yX7_votesWrongBy, yX7_wrongsOf, yX7_fillSet, yX8_feed, yX8_read, yX8_member, yX8_party, yX8_vote, yX8_of, yX8_takeOut, yX8_hold, yX8_free, yX8_apart, yX8_put, yX8_judge, yX8_cut, yX8_wrong, yX8_best, yX8_row, yX8_open, yX8_knot, yX8_chance, yX8_place, yX8_line, yX8_sheet, yX8_turn, yX8_odd, yX8_second, yX8_move, yX8_stretches, yX8_parties, yX8_say, yX8_sure, yX8_image, yX8_restore, yX8_count, yX8_refuse, yX8_votesChanged, yX8_judgeRows, yX8_lacksBest, yX8_handIsWhole, yX8_emptyHand, yX8_cutIn, yX8_oddOnes, yX8_stretchesOf, yX8_partyInTwo, yX8_thoseInAnothers, yX8_refusalOfSay, yX8_saysYes, yX8_has, yX9_no, yX9_isIn, yX9_out, yX9_bits, yX9_isMember, yX9_isVote, yX9_joins, yX9_member, yX9_party, yX9_votesSo, yX9_isOf, yX9_vote, yX9_of, yX9_takeOut, yX9_isHeld, yX9_holds, yX9_hold, yX9_free, yX9_apart, yX9_feed, yX9_sign, yX9_takes, yX9_number, yX9_digit, yX9_readsMember, yX9_readsVote, yX9_readsHeld, yX9_readsParty, yX9_statement, yX9_read, yX9_findCut, yX9_wrongOf, yX9_wrongAll, yX9_isYes, yX9_firstRow, yX9_nextRow, yX9_placeOf, yX9_isAsHeld, yX9_finds, yX9_looksAt, yX9_stands, yX9_first, yX9_put, yX9_standsTold, yX9_judge, yX9_cut, yX9_wrong, yX9_best, yX9_row, yX9_open, yX9_isKnot, yX9_knot, yX9_dealt, yX9_chance, yX9_place, yX9_measure, yX9_findLine, yX9_takesLine, yX9_line, yX9_sheet, yX9_turn, yX9_oddOf, yX9_odd, yX9_second, yX9_movesTo, yX9_findMove, yX9_triesYears, yX9_move, yX9_stretchesOf, yX9_stretches, yX9_parties, yX9_sayOf, yX9_notAway, yX9_say, yX9_sure, yX9_passes, yX9_passOne, yX9_passesAll, yX9_image, yX9_restore, yX9_count, yJ6_bitCount_0f7a4, yL_law]
def mBL : List ByteArray := [cX0_size, cX0_hasRoom, cX0_append, cX0_readAll, cX0_statement, cX0_memberStatement, cX0_voteStatement, cX0_heldStatement, cX0_partyStatement, cX0_fail, cX0_next, cX0_letter, cX0_expect, cX0_word, cX0_digit, cX0_number, cX1_copyFrom, cX1_members, cX1_votes, cX1_held, cX1_isMember, cX1_isVote, cX1_hasRoomForMember, cX1_hasRoomForVote, cX1_hasRoomForHeld, cX1_everyone, cX1_thoseOfYear, cX1_addMember, cX1_changeParty, cX1_addVote, cX1_dropVote, cX1_isHeld, cX1_addHeld, cX1_dropHeld, cX1_heldEnds, cX1_heldBeside, cX1_partyOf, cX1_yearOf, cX1_yesOf, cX1_noOf, cX1_words, cX1_xOf, cX1_yOf, cX1_bring, cX2_at, cX2_with, cX2_without, cX2_firstOnes, cX2_bestCut, cX2_placeOfCut, cX2_yesIsLeft, cX3_booksWithin, cX3_wrongOfNextBook, cX3_deal, cX4_find, cX4_fall, cX4_whose, cX4_since, cX4_whither, cX4_code, cX4_tryMove, cX4_noteFalls, cX5_forgetWrongs, cX5_forgetBest, cX5_bestOnes, cX5_leastWrong, cX5_bestAt, cX5_openOnes, cX5_leastWrongOf, cX5_knotted, cX5_findKnot, cX5_lowestThatCannotJoin, cX5_sift, cX5_noteHeld, cX5_isAsHeld, cX5_judgeAll, cX5_listAll, cX5_extend, cX5_extend, cX5_extend, cX5_extend, cX5_extend, cX5_extend, cX5_extend, cX5_extend, cX5_extend, cX5_keep, cX6_total, cX6_bestLine, cX6_moveAll, cX6_moveOne, cX6_noteStanding, cX6_measure, cX7_forget, cX7_refresh, cX7_start, cX7_meet, cX7_walk, cX7_total, cX7_votesWrongBy, cX7_wrongsOf, cX7_fillSet, cX8_feed, cX8_read, cX8_member, cX8_party, cX8_vote, cX8_of, cX8_takeOut, cX8_hold, cX8_free, cX8_apart, cX8_put, cX8_judge, cX8_cut, cX8_wrong, cX8_best, cX8_row, cX8_open, cX8_knot, cX8_chance, cX8_place, cX8_line, cX8_sheet, cX8_turn, cX8_odd, cX8_second, cX8_move, cX8_stretches, cX8_parties, cX8_say, cX8_sure, cX8_image, cX8_restore, cX8_count, cX8_refuse, cX8_votesChanged, cX8_judgeRows, cX8_lacksBest, cX8_handIsWhole, cX8_emptyHand, cX8_cutIn, cX8_oddOnes, cX8_stretchesOf, cX8_partyInTwo, cX8_thoseInAnothers, cX8_refusalOfSay, cX8_saysYes, cX8_has, cX9_no, cX9_isIn, cX9_out, cX9_bits, cX9_isMember, cX9_isVote, cX9_joins, cX9_member, cX9_party, cX9_votesSo, cX9_isOf, cX9_vote, cX9_of, cX9_takeOut, cX9_isHeld, cX9_holds, cX9_hold, cX9_free, cX9_apart, cX9_feed, cX9_sign, cX9_takes, cX9_number, cX9_digit, cX9_readsMember, cX9_readsVote, cX9_readsHeld, cX9_readsParty, cX9_statement, cX9_read, cX9_findCut, cX9_wrongOf, cX9_wrongAll, cX9_isYes, cX9_firstRow, cX9_nextRow, cX9_placeOf, cX9_isAsHeld, cX9_finds, cX9_looksAt, cX9_stands, cX9_first, cX9_put, cX9_standsTold, cX9_judge, cX9_cut, cX9_wrong, cX9_best, cX9_row, cX9_open, cX9_isKnot, cX9_knot, cX9_dealt, cX9_chance, cX9_place, cX9_measure, cX9_findLine, cX9_takesLine, cX9_line, cX9_sheet, cX9_turn, cX9_oddOf, cX9_odd, cX9_second, cX9_movesTo, cX9_findMove, cX9_triesYears, cX9_move, cX9_stretchesOf, cX9_stretches, cX9_parties, cX9_sayOf, cX9_notAway, cX9_say, cX9_sure, cX9_passes, cX9_passOne, cX9_passesAll, cX9_image, cX9_restore, cX9_count, cJ6_bitCount_0f7a4, code]
def mRL : List (Option FieldType) := [(some .int), (some .boolean), (some .int), (some .int), none, none, none, none, none, none, (some .int), none, none, (some .int), (some .int), (some .int), none, (some .int), (some .int), (some .int), (some .boolean), (some .boolean), (some .boolean), (some .boolean), (some .boolean), (some .int), (some .int), (some .int), (some .int), (some .int), (some .int), (some .boolean), (some .int), (some .int), (some .int), (some .int), (some .int), (some .int), (some .int), (some .int), (some .int), (some .int), (some .int), none, (some .int), (some .int), (some .int), (some .int), (some .int), (some .int), (some .boolean), (some .int), (some .int), (some .int), (some .boolean), (some .int), (some .int), (some .int), (some .int), (some .int), none, none, none, none, (some .int), (some .int), (some .int), (some .int), (some .int), (some .int), (some .int), (some .int), none, none, (some .boolean), none, none, none, none, none, none, none, none, none, none, none, none, (some .int), (some .int), none, none, none, (some .int), none, none, none, none, none, (some .int), (some .int), (some .int), none, (some .int), (some .int), (some .int), (some .int), (some .int), (some .int), (some .int), (some .int), (some .int), (some .int), (some .int), (some .int), (some .int), (some .int), (some .int), (some .int), (some .int), (some .int), (some .int), (some .int), (some .int), (some .int), (some .int), (some .int), (some .int), (some .int), (some .int), (some .int), (some .int), (some .int), (some .int), (some .int), (some .int), (some .int), none, none, (some .boolean), (some .boolean), none, (some .int), (some .int), (some .int), (some .int), (some .int), (some .int), (some .boolean), (some .boolean), (some .int), (some .boolean), (some .int), (some .int), (some .boolean), (some .boolean), (some .int), (some .int), (some .int), (some .int), (some .boolean), (some .int), (some .int), (some .int), (some .boolean), none, (some .int), (some .int), (some .int), (some .int), (some .int), (some .boolean), (some .int), (some .int), (some .boolean), (some .boolean), (some .boolean), (some .boolean), (some .boolean), (some .int), none, (some .int), (some .int), (some .boolean), none, (some .boolean), (some .int), (some .boolean), none, none, none, (some .boolean), (some .int), none, (some .int), (some .int), (some .int), (some .int), (some .int), (some .int), (some .boolean), (some .int), (some .int), (some .int), (some .int), (some .int), none, none, (some .int), (some .int), (some .int), (some .int), (some .int), (some .int), none, (some .boolean), none, (some .int), (some .int), (some .int), (some .int), (some .int), (some .int), (some .int), (some .int), none, (some .int), none, (some .int), (some .int), (some .int), (some .int), (some .boolean)]
def mHL : List Nat := [0, 0, 0, 5, 4, 3, 3, 2, 2, 0, 0, 1, 1, 1, 1, 2, 1, 0, 0, 0, 0, 0, 0, 0, 0, 0, 0, 1, 1, 1, 0, 1, 1, 0, 0, 0, 1, 1, 1, 1, 1, 1, 1, 1, 0, 0, 0, 1, 1, 0, 0, 3, 2, 1, 4, 0, 1, 1, 1, 0, 3, 2, 0, 0, 0, 0, 0, 1, 1, 2, 1, 0, 2, 1, 1, 2, 11, 10, 9, 8, 7, 6, 5, 4, 3, 2, 1, 3, 3, 5, 4, 2, 0, 0, 3, 0, 0, 1, 1, 0, 0, 2, 1, 6, 2, 2, 2, 2, 2, 2, 1, 2, 2, 4, 3, 3, 14, 14, 14, 13, 14, 2, 4, 4, 6, 14, 14, 14, 14, 14, 14, 14, 2, 2, 2, 0, 1, 12, 13, 1, 0, 2, 2, 2, 3, 2, 2, 3, 0, 0, 0, 0, 0, 0, 0, 0, 1, 1, 0, 0, 1, 1, 1, 0, 0, 1, 0, 1, 1, 0, 1, 1, 1, 2, 2, 2, 2, 3, 4, 1, 2, 3, 0, 0, 0, 0, 1, 4, 3, 0, 5, 1, 0, 4, 2, 2, 5, 5, 5, 0, 5, 1, 6, 1, 0, 1, 0, 2, 2, 3, 3, 6, 6, 0, 6, 0, 7, 0, 6, 6, 2, 1, 6, 6, 0, 0, 1, 2, 2, 1, 0, 15]
def mVL : List Bool := [true, true, true, true, true, true, true, true, true, true, true, true, true, true, true, true, true, true, true, true, true, true, true, true, true, true, true, true, true, true, true, true, true, true, true, true, true, true, true, true, true, true, true, true, false, false, false, false, false, false, false, true, true, true, true, true, true, true, true, true, true, true, true, true, true, true, true, true, true, true, true, true, true, true, true, true, true, false, false, false, false, false, false, false, false, false, true, true, true, true, true, true, false, true, true, true, true, true, true, true, true, true, true, true, true, true, true, true, true, true, true, true, true, true, true, true, true, true, true, true, true, true, true, true, true, true, true, true, true, true, true, true, true, true, true, true, true, true, true, true, true, true, true, true, true, true, true, true, false, true, false, false, false, true, true, true, true, true, true, true, true, true, true, true, true, true, true, true, true, true, true, true, true, true, true, true, true, true, true, true, true, true, true, true, true, true, true, true, true, true, true, true, true, true, true, true, true, true, true, true, true, true, true, true, true, true, true, true, true, true, true, true, true, true, true, true, true, true, true, true, true, true, true, true, true, true, true, true, true, true, false, false]
def mNF (k : Nat) : MethodName := gO ⟨"", "", ""⟩ (nth mNL k)
def mBF (k : Nat) : ByteArray := gO ⟨#[]⟩ (nth mBL k)
def mRF (k : Nat) : Option FieldType := gO none (nth mRL k)
def mHF (k : Nat) : Nat := gO 1000000 (nth mHL k)
def mVF (k : Nat) : Bool := gO false (nth mVL k)
def isNest : Cond → Bool
  | .methodLinkNest _ _ _ _ => true
  | _ => false
def WSt : List Cond := lw_tbl.filter goodWord
def nwt : List Cond := lw_tbl.filter isNest
def chkRow (f : Nat → sE → Bool) : Nat → List (Option sE) → Bool
  | _, [] => true
  | b, none :: l => chkRow f (b + 1) l
  | b, some e :: l => f b e && chkRow f (b + 1) l
def chkT (f : Nat → sE → Bool) : Nat → List (List (Option sE)) → Bool
  | _, [] => true
  | b, r :: rs => chkRow f b r && chkT f (b + 32) rs
theorem chkRow_spec (f : Nat → sE → Bool) : ∀ (l : List (Option sE)) (b j : Nat) (e : sE), chkRow f b l = true → nth l j = some (some e) → f (b + j) e = true := by
  intro l
  induction l with
  | nil => intro b j e _ h; cases j <;> cases h
  | cons a l ih =>
    intro b j e hc h
    cases a with
    | none =>
      cases j with
      | zero => cases h
      | succ j =>
        have := ih (b + 1) j e hc h
        rwa [show b + 1 + j = b + (j + 1) by omega] at this
    | some e0 =>
      have hc' : (f b e0 && chkRow f (b + 1) l) = true := hc
      rw [Bool.and_eq_true] at hc'
      cases j with
      | zero => cases h; exact hc'.1
      | succ j =>
        have := ih (b + 1) j e hc'.2 h
        rwa [show b + 1 + j = b + (j + 1) by omega] at this
theorem chkT_spec (f : Nat → sE → Bool) : ∀ (t : List (List (Option sE))) (b i : Nat) (row : List (Option sE)), chkT f b t = true → nth t i = some row → chkRow f (b + 32 * i) row = true := by
  intro t
  induction t with
  | nil => intro b i row _ h; cases i <;> cases h
  | cons r rs ih =>
    intro b i row hc h
    have hc' : (chkRow f b r && chkT f (b + 32) rs) = true := hc
    rw [Bool.and_eq_true] at hc'
    cases i with
    | zero => cases h; exact hc'.1
    | succ i =>
      have := ih (b + 32) i row hc'.2 h
      rwa [show b + 32 + 32 * i = b + 32 * (i + 1) by omega] at this
theorem look_chk (f : Nat → sE → Bool) {t : List (List (Option sE))} (h : chkT f 0 t = true) {pc : Nat} {e : sE} (hl : look t pc = some e) : f pc e = true := by
  unfold look at hl
  split at hl
  · next row hr =>
    split at hl
    · next o ho =>
      subst hl
      have h1 := chkRow_spec f row _ _ e (chkT_spec f t 0 _ row h hr) ho
      rwa [show 0 + 32 * (pc / 32) + pc % 32 = pc by omega] at h1
    · cases hl
  · cases hl
def AllK {α : Type} (P : Nat → α → Prop) : Nat → List α → Prop
  | _, [] => True
  | i, t :: ts => P i t ∧ AllK P (i + 1) ts
theorem AllK_get {α : Type} {P : Nat → α → Prop} : ∀ (l : List α) (i k : Nat) (t : α), AllK P i l → nth l k = some t → P (i + k) t := by
  intro l
  induction l with
  | nil => intro i k t _ h; cases k <;> cases h
  | cons a l ih =>
    intro i k t hc h
    cases k with
    | zero => cases h; exact hc.1
    | succ k =>
      have := ih (i + 1) k t hc.2 h
      rwa [show i + 1 + k = i + (k + 1) by omega] at this
abbrev chkF (k : Nat) : Nat → sE → Bool := chkE lw_tbl mLF mNF mBF mRF mHF mVF k
-- the code
theorem chkT_cons {f : Nat → sE → Bool} {b : Nat} {r : List (Option sE)} {rs : List (List (Option sE))} (h1 : chkRow f b r = true) (h2 : chkT f (b + 32) rs = true) : chkT f b (r :: rs) = true := by
  show (chkRow f b r && chkT f (b + 32) rs) = true
  rw [h1, h2]
  rfl
theorem ck_0 : chkT (chkF 0) 0 t0 = true := by decide +kernel
theorem ck_1 : chkT (chkF 1) 0 t1 = true := by decide +kernel
theorem ck_2 : chkT (chkF 2) 0 t2 = true := by decide +kernel
theorem ck_3 : chkT (chkF 3) 0 t3 = true := by decide +kernel
theorem ck_4 : chkT (chkF 4) 0 t4 = true := by decide +kernel
theorem ck_5 : chkT (chkF 5) 0 t5 = true := by decide +kernel
theorem ck_6 : chkT (chkF 6) 0 t6 = true := by decide +kernel
theorem ck_7 : chkT (chkF 7) 0 t7 = true := by decide +kernel
theorem ck_8 : chkT (chkF 8) 0 t8 = true := by decide +kernel
theorem ck_9 : chkT (chkF 9) 0 t9 = true := by decide +kernel
theorem ck_10 : chkT (chkF 10) 0 t10 = true := by decide +kernel
theorem ck_11 : chkT (chkF 11) 0 t11 = true := by decide +kernel
theorem ck_12 : chkT (chkF 12) 0 t12 = true := by decide +kernel
theorem ck_13 : chkT (chkF 13) 0 t13 = true := by decide +kernel
theorem ck_14 : chkT (chkF 14) 0 t14 = true := by decide +kernel
theorem ck_15 : chkT (chkF 15) 0 t15 = true := by decide +kernel
theorem ck_16 : chkT (chkF 16) 0 t16 = true := by decide +kernel
theorem ck_17 : chkT (chkF 17) 0 t17 = true := by decide +kernel
theorem ck_18 : chkT (chkF 18) 0 t18 = true := by decide +kernel
theorem ck_19 : chkT (chkF 19) 0 t19 = true := by decide +kernel
theorem ck_20 : chkT (chkF 20) 0 t20 = true := by decide +kernel
theorem ck_21 : chkT (chkF 21) 0 t21 = true := by decide +kernel
theorem ck_22 : chkT (chkF 22) 0 t22 = true := by decide +kernel
theorem ck_23 : chkT (chkF 23) 0 t23 = true := by decide +kernel
theorem ck_24 : chkT (chkF 24) 0 t24 = true := by decide +kernel
theorem ck_25 : chkT (chkF 25) 0 t25 = true := by decide +kernel
theorem ck_26 : chkT (chkF 26) 0 t26 = true := by decide +kernel
theorem ck_27 : chkT (chkF 27) 0 t27 = true := by decide +kernel
theorem ck_28 : chkT (chkF 28) 0 t28 = true := by decide +kernel
theorem ck_29 : chkT (chkF 29) 0 t29 = true := by decide +kernel
theorem ck_30 : chkT (chkF 30) 0 t30 = true := by decide +kernel
theorem ck_31 : chkT (chkF 31) 0 t31 = true := by decide +kernel
theorem ck_32 : chkT (chkF 32) 0 t32 = true := by decide +kernel
theorem ck_33 : chkT (chkF 33) 0 t33 = true := by decide +kernel
theorem ck_34 : chkT (chkF 34) 0 t34 = true := by decide +kernel
theorem ck_35 : chkT (chkF 35) 0 t35 = true := by decide +kernel
theorem ck_36 : chkT (chkF 36) 0 t36 = true := by decide +kernel
theorem ck_37 : chkT (chkF 37) 0 t37 = true := by decide +kernel
theorem ck_38 : chkT (chkF 38) 0 t38 = true := by decide +kernel
theorem ck_39 : chkT (chkF 39) 0 t39 = true := by decide +kernel
theorem ck_40 : chkT (chkF 40) 0 t40 = true := by decide +kernel
theorem ck_41 : chkT (chkF 41) 0 t41 = true := by decide +kernel
theorem ck_42 : chkT (chkF 42) 0 t42 = true := by decide +kernel
theorem ck_43 : chkT (chkF 43) 0 t43 = true := by decide +kernel
theorem ck_44 : chkT (chkF 44) 0 t44 = true := by decide +kernel
theorem ck_45 : chkT (chkF 45) 0 t45 = true := by decide +kernel
theorem ck_46 : chkT (chkF 46) 0 t46 = true := by decide +kernel
theorem ck_47 : chkT (chkF 47) 0 t47 = true := by decide +kernel
theorem ck_48 : chkT (chkF 48) 0 t48 = true := by decide +kernel
theorem ck_49 : chkT (chkF 49) 0 t49 = true := by decide +kernel
theorem ck_50 : chkT (chkF 50) 0 t50 = true := by decide +kernel
theorem ck_51 : chkT (chkF 51) 0 t51 = true := by decide +kernel
theorem ck_52 : chkT (chkF 52) 0 t52 = true := by decide +kernel
theorem ck_53 : chkT (chkF 53) 0 t53 = true := by decide +kernel
theorem ck_54 : chkT (chkF 54) 0 t54 = true := by decide +kernel
theorem ck_55 : chkT (chkF 55) 0 t55 = true := by decide +kernel
theorem ck_56 : chkT (chkF 56) 0 t56 = true := by decide +kernel
theorem ck_57 : chkT (chkF 57) 0 t57 = true := by decide +kernel
theorem ck_58 : chkT (chkF 58) 0 t58 = true := by decide +kernel
theorem ck_59 : chkT (chkF 59) 0 t59 = true := by decide +kernel
theorem ck_60 : chkT (chkF 60) 0 t60 = true := by decide +kernel
theorem ck_61 : chkT (chkF 61) 0 t61 = true := by decide +kernel
theorem ck_62 : chkT (chkF 62) 0 t62 = true := by decide +kernel
theorem ck_63 : chkT (chkF 63) 0 t63 = true := by decide +kernel
theorem ck_64 : chkT (chkF 64) 0 t64 = true := by decide +kernel
theorem ck_65 : chkT (chkF 65) 0 t65 = true := by decide +kernel
theorem ck_66 : chkT (chkF 66) 0 t66 = true := by decide +kernel
theorem ck_67 : chkT (chkF 67) 0 t67 = true := by decide +kernel
theorem ck_68 : chkT (chkF 68) 0 t68 = true := by decide +kernel
theorem ck_69 : chkT (chkF 69) 0 t69 = true := by decide +kernel
theorem ck_70 : chkT (chkF 70) 0 t70 = true := by decide +kernel
theorem ck_71 : chkT (chkF 71) 0 t71 = true := by decide +kernel
theorem ck_72 : chkT (chkF 72) 0 t72 = true := by decide +kernel
theorem ck_73 : chkT (chkF 73) 0 t73 = true := by decide +kernel
theorem ck_74 : chkT (chkF 74) 0 t74 = true := by decide +kernel
theorem ck_75 : chkT (chkF 75) 0 t75 = true := by decide +kernel
theorem ck_76 : chkT (chkF 76) 0 t76 = true := by decide +kernel
theorem ck_77 : chkT (chkF 77) 0 t77 = true := by decide +kernel
theorem ck_78 : chkT (chkF 78) 0 t78 = true := by decide +kernel
theorem ck_79 : chkT (chkF 79) 0 t79 = true := by decide +kernel
theorem ck_80 : chkT (chkF 80) 0 t80 = true := by decide +kernel
theorem ck_81 : chkT (chkF 81) 0 t81 = true := by decide +kernel
theorem ck_82 : chkT (chkF 82) 0 t82 = true := by decide +kernel
theorem ck_83 : chkT (chkF 83) 0 t83 = true := by decide +kernel
theorem ck_84 : chkT (chkF 84) 0 t84 = true := by decide +kernel
theorem ck_85 : chkT (chkF 85) 0 t85 = true := by decide +kernel
theorem ck_86 : chkT (chkF 86) 0 t86 = true := by decide +kernel
theorem ck_87 : chkT (chkF 87) 0 t87 = true := by decide +kernel
theorem ck_88 : chkT (chkF 88) 0 t88 = true := by decide +kernel
theorem ck_89 : chkT (chkF 89) 0 t89 = true := by decide +kernel
theorem ck_90 : chkT (chkF 90) 0 t90 = true := by decide +kernel
theorem ck_91 : chkT (chkF 91) 0 t91 = true := by decide +kernel
theorem ck_92 : chkT (chkF 92) 0 t92 = true := by decide +kernel
theorem ck_93 : chkT (chkF 93) 0 t93 = true := by decide +kernel
theorem ck_94 : chkT (chkF 94) 0 t94 = true := by decide +kernel
theorem ck_95 : chkT (chkF 95) 0 t95 = true := by decide +kernel
theorem ck_96 : chkT (chkF 96) 0 t96 = true := by decide +kernel
theorem ck_97 : chkT (chkF 97) 0 t97 = true := by decide +kernel
theorem ck_98 : chkT (chkF 98) 0 t98 = true := by decide +kernel
theorem ck_99 : chkT (chkF 99) 0 t99 = true := by decide +kernel
theorem ck_100 : chkT (chkF 100) 0 t100 = true := by decide +kernel
theorem ck_101 : chkT (chkF 101) 0 t101 = true := by decide +kernel
theorem ck_102 : chkT (chkF 102) 0 t102 = true := by decide +kernel
theorem ck_103 : chkT (chkF 103) 0 t103 = true := by decide +kernel
theorem ck_104 : chkT (chkF 104) 0 t104 = true := by decide +kernel
theorem ck_105 : chkT (chkF 105) 0 t105 = true := by decide +kernel
theorem ck_106 : chkT (chkF 106) 0 t106 = true := by decide +kernel
theorem ck_107 : chkT (chkF 107) 0 t107 = true := by decide +kernel
theorem ck_108 : chkT (chkF 108) 0 t108 = true := by decide +kernel
theorem ck_109 : chkT (chkF 109) 0 t109 = true := by decide +kernel
theorem ck_110 : chkT (chkF 110) 0 t110 = true := by decide +kernel
theorem ck_111 : chkT (chkF 111) 0 t111 = true := by decide +kernel
theorem ck_112 : chkT (chkF 112) 0 t112 = true := by decide +kernel
theorem ck_113 : chkT (chkF 113) 0 t113 = true := by decide +kernel
theorem ck_114 : chkT (chkF 114) 0 t114 = true := by decide +kernel
theorem ck_115 : chkT (chkF 115) 0 t115 = true := by decide +kernel
theorem ck_116 : chkT (chkF 116) 0 t116 = true := by decide +kernel
theorem ck_117 : chkT (chkF 117) 0 t117 = true := by decide +kernel
theorem ck_118 : chkT (chkF 118) 0 t118 = true := by decide +kernel
theorem ck_119 : chkT (chkF 119) 0 t119 = true := by decide +kernel
theorem ck_120 : chkT (chkF 120) 0 t120 = true := by decide +kernel
theorem ck_121 : chkT (chkF 121) 0 t121 = true := by decide +kernel
theorem ck_122 : chkT (chkF 122) 0 t122 = true := by decide +kernel
theorem ck_123 : chkT (chkF 123) 0 t123 = true := by decide +kernel
theorem ck_124 : chkT (chkF 124) 0 t124 = true := by decide +kernel
theorem ck_125 : chkT (chkF 125) 0 t125 = true := by decide +kernel
theorem ck_126 : chkT (chkF 126) 0 t126 = true := by decide +kernel
theorem ck_127 : chkT (chkF 127) 0 t127 = true := by decide +kernel
theorem ck_128 : chkT (chkF 128) 0 t128 = true := by decide +kernel
theorem ck_129 : chkT (chkF 129) 0 t129 = true := by decide +kernel
theorem ck_130 : chkT (chkF 130) 0 t130 = true := by decide +kernel
theorem ck_131 : chkT (chkF 131) 0 t131 = true := by decide +kernel
theorem ck_132 : chkT (chkF 132) 0 t132 = true := by decide +kernel
theorem ck_133 : chkT (chkF 133) 0 t133 = true := by decide +kernel
theorem ck_134 : chkT (chkF 134) 0 t134 = true := by decide +kernel
theorem ck_135 : chkT (chkF 135) 0 t135 = true := by decide +kernel
theorem ck_136 : chkT (chkF 136) 0 t136 = true := by decide +kernel
theorem ck_137 : chkT (chkF 137) 0 t137 = true := by decide +kernel
theorem ck_138 : chkT (chkF 138) 0 t138 = true := by decide +kernel
theorem ck_139 : chkT (chkF 139) 0 t139 = true := by decide +kernel
theorem ck_140 : chkT (chkF 140) 0 t140 = true := by decide +kernel
theorem ck_141 : chkT (chkF 141) 0 t141 = true := by decide +kernel
theorem ck_142 : chkT (chkF 142) 0 t142 = true := by decide +kernel
theorem ck_143 : chkT (chkF 143) 0 t143 = true := by decide +kernel
theorem ck_144 : chkT (chkF 144) 0 t144 = true := by decide +kernel
theorem ck_145 : chkT (chkF 145) 0 t145 = true := by decide +kernel
theorem ck_146 : chkT (chkF 146) 0 t146 = true := by decide +kernel
theorem ck_147 : chkT (chkF 147) 0 t147 = true := by decide +kernel
theorem ck_148 : chkT (chkF 148) 0 t148 = true := by decide +kernel
theorem ck_149 : chkT (chkF 149) 0 t149 = true := by decide +kernel
theorem ck_150 : chkT (chkF 150) 0 t150 = true := by decide +kernel
theorem ck_151 : chkT (chkF 151) 0 t151 = true := by decide +kernel
theorem ck_152 : chkT (chkF 152) 0 t152 = true := by decide +kernel
theorem ck_153 : chkT (chkF 153) 0 t153 = true := by decide +kernel
theorem ck_154 : chkT (chkF 154) 0 t154 = true := by decide +kernel
theorem ck_155 : chkT (chkF 155) 0 t155 = true := by decide +kernel
theorem ck_156 : chkT (chkF 156) 0 t156 = true := by decide +kernel
theorem ck_157 : chkT (chkF 157) 0 t157 = true := by decide +kernel
theorem ck_158 : chkT (chkF 158) 0 t158 = true := by decide +kernel
theorem ck_159 : chkT (chkF 159) 0 t159 = true := by decide +kernel
theorem ck_160 : chkT (chkF 160) 0 t160 = true := by decide +kernel
theorem ck_161 : chkT (chkF 161) 0 t161 = true := by decide +kernel
theorem ck_162 : chkT (chkF 162) 0 t162 = true := by decide +kernel
theorem ck_163 : chkT (chkF 163) 0 t163 = true := by decide +kernel
theorem ck_164 : chkT (chkF 164) 0 t164 = true := by decide +kernel
theorem ck_165 : chkT (chkF 165) 0 t165 = true := by decide +kernel
theorem ck_166 : chkT (chkF 166) 0 t166 = true := by decide +kernel
theorem ck_167 : chkT (chkF 167) 0 t167 = true := by decide +kernel
theorem ck_168 : chkT (chkF 168) 0 t168 = true := by decide +kernel
theorem ck_169 : chkT (chkF 169) 0 t169 = true := by decide +kernel
theorem ck_170 : chkT (chkF 170) 0 t170 = true := by decide +kernel
theorem ck_171 : chkT (chkF 171) 0 t171 = true := by decide +kernel
theorem ck_172 : chkT (chkF 172) 0 t172 = true := by decide +kernel
theorem ck_173 : chkT (chkF 173) 0 t173 = true := by decide +kernel
theorem ck_174 : chkT (chkF 174) 0 t174 = true := by decide +kernel
theorem ck_175 : chkT (chkF 175) 0 t175 = true := by decide +kernel
theorem ck_176 : chkT (chkF 176) 0 t176 = true := by decide +kernel
theorem ck_177 : chkT (chkF 177) 0 t177 = true := by decide +kernel
theorem ck_178 : chkT (chkF 178) 0 t178 = true := by decide +kernel
theorem ck_179 : chkT (chkF 179) 0 t179 = true := by decide +kernel
theorem ck_180 : chkT (chkF 180) 0 t180 = true := by decide +kernel
theorem ck_181 : chkT (chkF 181) 0 t181 = true := by decide +kernel
theorem ck_182 : chkT (chkF 182) 0 t182 = true := by decide +kernel
theorem ck_183 : chkT (chkF 183) 0 t183 = true := by decide +kernel
theorem ck_184 : chkT (chkF 184) 0 t184 = true := by decide +kernel
theorem ck_185 : chkT (chkF 185) 0 t185 = true := by decide +kernel
theorem ck_186 : chkT (chkF 186) 0 t186 = true := by decide +kernel
theorem ck_187 : chkT (chkF 187) 0 t187 = true := by decide +kernel
theorem ck_188 : chkT (chkF 188) 0 t188 = true := by decide +kernel
theorem ck_189 : chkT (chkF 189) 0 t189 = true := by decide +kernel
theorem ck_190 : chkT (chkF 190) 0 t190 = true := by decide +kernel
theorem ck_191 : chkT (chkF 191) 0 t191 = true := by decide +kernel
theorem ck_192 : chkT (chkF 192) 0 t192 = true := by decide +kernel
theorem ck_193 : chkT (chkF 193) 0 t193 = true := by decide +kernel
theorem ck_194 : chkT (chkF 194) 0 t194 = true := by decide +kernel
theorem ck_195 : chkT (chkF 195) 0 t195 = true := by decide +kernel
theorem ck_196 : chkT (chkF 196) 0 t196 = true := by decide +kernel
theorem ck_197 : chkT (chkF 197) 0 t197 = true := by decide +kernel
theorem ck_198 : chkT (chkF 198) 0 t198 = true := by decide +kernel
theorem ck_199 : chkT (chkF 199) 0 t199 = true := by decide +kernel
theorem ck_200 : chkT (chkF 200) 0 t200 = true := by decide +kernel
theorem ck_201 : chkT (chkF 201) 0 t201 = true := by decide +kernel
theorem ck_202 : chkT (chkF 202) 0 t202 = true := by decide +kernel
theorem ck_203 : chkT (chkF 203) 0 t203 = true := by decide +kernel
theorem ck_204 : chkT (chkF 204) 0 t204 = true := by decide +kernel
theorem ck_205 : chkT (chkF 205) 0 t205 = true := by decide +kernel
theorem ck_206 : chkT (chkF 206) 0 t206 = true := by decide +kernel
theorem ck_207 : chkT (chkF 207) 0 t207 = true := by decide +kernel
theorem ck_208 : chkT (chkF 208) 0 t208 = true := by decide +kernel
theorem ck_209 : chkT (chkF 209) 0 t209 = true := by decide +kernel
theorem ck_210 : chkT (chkF 210) 0 t210 = true := by decide +kernel
theorem ck_211 : chkT (chkF 211) 0 t211 = true := by decide +kernel
theorem ck_212 : chkT (chkF 212) 0 t212 = true := by decide +kernel
theorem ck_213 : chkT (chkF 213) 0 t213 = true := by decide +kernel
theorem ck_214 : chkT (chkF 214) 0 t214 = true := by decide +kernel
theorem ck_215 : chkT (chkF 215) 0 t215 = true := by decide +kernel
theorem ck_216 : chkT (chkF 216) 0 t216 = true := by decide +kernel
theorem ck_217 : chkT (chkF 217) 0 t217 = true := by decide +kernel
theorem ck_218 : chkT (chkF 218) 0 t218 = true := by decide +kernel
theorem ck_219 : chkT (chkF 219) 0 t219 = true := by decide +kernel
theorem ck_220 : chkT (chkF 220) 0 t220 = true := by decide +kernel
theorem ck_221 : chkT (chkF 221) 0 t221 = true := by decide +kernel
theorem ck_222 : chkT (chkF 222) 0 t222 = true := by decide +kernel
theorem ck_223 : chkT (chkF 223) 0 t223 = true := by decide +kernel
theorem ck_224 : chkT (chkF 224) 0 t224 = true := by decide +kernel
theorem ck_225 : chkT (chkF 225) 0 t225 = true := by decide +kernel
theorem ck_226 : chkT (chkF 226) 0 t226 = true := by decide +kernel
theorem ck_227 : chkT (chkF 227) 0 t227 = true := by decide +kernel
theorem ck_228 : chkT (chkF 228) 0 t228 = true := by decide +kernel
theorem ck_229 : chkT (chkF 229) 0 t229 = true := by decide +kernel
theorem ck_230 : chkT (chkF 230) 0 t230 = true := by decide +kernel
theorem ck_law_0 : chkRow (chkF 231) 0 t231_0 = true := by decide +kernel
theorem ck_law_1 : chkRow (chkF 231) 32 t231_1 = true := by decide +kernel
theorem ck_law_2 : chkRow (chkF 231) 64 t231_2 = true := by decide +kernel
theorem ck_law_3 : chkRow (chkF 231) 96 t231_3 = true := by decide +kernel
theorem ck_law_4 : chkRow (chkF 231) 128 t231_4 = true := by decide +kernel
theorem ck_law_5 : chkRow (chkF 231) 160 t231_5 = true := by decide +kernel
theorem ck_law_6 : chkRow (chkF 231) 192 t231_6 = true := by decide +kernel
theorem ck_law_7 : chkRow (chkF 231) 224 t231_7 = true := by decide +kernel
theorem ck_law_8 : chkRow (chkF 231) 256 t231_8 = true := by decide +kernel
theorem ck_law_9 : chkRow (chkF 231) 288 t231_9 = true := by decide +kernel
theorem ck_law_10 : chkRow (chkF 231) 320 t231_10 = true := by decide +kernel
theorem ck_law_11 : chkRow (chkF 231) 352 t231_11 = true := by decide +kernel
theorem ck_law_12 : chkRow (chkF 231) 384 t231_12 = true := by decide +kernel
theorem ck_law_13 : chkRow (chkF 231) 416 t231_13 = true := by decide +kernel
theorem ck_law_14 : chkRow (chkF 231) 448 t231_14 = true := by decide +kernel
theorem ck_law_15 : chkRow (chkF 231) 480 t231_15 = true := by decide +kernel
theorem ck_law_16 : chkRow (chkF 231) 512 t231_16 = true := by decide +kernel
theorem ck_law_17 : chkRow (chkF 231) 544 t231_17 = true := by decide +kernel
theorem ck_law_18 : chkRow (chkF 231) 576 t231_18 = true := by decide +kernel
theorem ck_law_19 : chkRow (chkF 231) 608 t231_19 = true := by decide +kernel
theorem ck_law_20 : chkRow (chkF 231) 640 t231_20 = true := by decide +kernel
theorem ck_law_21 : chkRow (chkF 231) 672 t231_21 = true := by decide +kernel
theorem ck_law_22 : chkRow (chkF 231) 704 t231_22 = true := by decide +kernel
theorem ck_law_23 : chkRow (chkF 231) 736 t231_23 = true := by decide +kernel
theorem ck_law_24 : chkRow (chkF 231) 768 t231_24 = true := by decide +kernel
theorem ck_law_25 : chkRow (chkF 231) 800 t231_25 = true := by decide +kernel
theorem ck_law_26 : chkRow (chkF 231) 832 t231_26 = true := by decide +kernel
theorem ck_law_27 : chkRow (chkF 231) 864 t231_27 = true := by decide +kernel
theorem ck_law_28 : chkRow (chkF 231) 896 t231_28 = true := by decide +kernel
theorem ck_law_29 : chkRow (chkF 231) 928 t231_29 = true := by decide +kernel
theorem ck_law_30 : chkRow (chkF 231) 960 t231_30 = true := by decide +kernel
theorem ck_law_31 : chkRow (chkF 231) 992 t231_31 = true := by decide +kernel
theorem ck_231 : chkT (chkF 231) 0 t231 = true := (chkT_cons ck_law_0 (chkT_cons ck_law_1 (chkT_cons ck_law_2 (chkT_cons ck_law_3 (chkT_cons ck_law_4 (chkT_cons ck_law_5 (chkT_cons ck_law_6 (chkT_cons ck_law_7 (chkT_cons ck_law_8 (chkT_cons ck_law_9 (chkT_cons ck_law_10 (chkT_cons ck_law_11 (chkT_cons ck_law_12 (chkT_cons ck_law_13 (chkT_cons ck_law_14 (chkT_cons ck_law_15 (chkT_cons ck_law_16 (chkT_cons ck_law_17 (chkT_cons ck_law_18 (chkT_cons ck_law_19 (chkT_cons ck_law_20 (chkT_cons ck_law_21 (chkT_cons ck_law_22 (chkT_cons ck_law_23 (chkT_cons ck_law_24 (chkT_cons ck_law_25 (chkT_cons ck_law_26 (chkT_cons ck_law_27 (chkT_cons ck_law_28 (chkT_cons ck_law_29 (chkT_cons ck_law_30 (chkT_cons ck_law_31 rfl))))))))))))))))))))))))))))))))
theorem ck_all : AllK (fun k t => chkT (chkF k) 0 t = true) 0 tabL := ⟨ck_0, ck_1, ck_2, ck_3, ck_4, ck_5, ck_6, ck_7, ck_8, ck_9, ck_10, ck_11, ck_12, ck_13, ck_14, ck_15, ck_16, ck_17, ck_18, ck_19, ck_20, ck_21, ck_22, ck_23, ck_24, ck_25, ck_26, ck_27, ck_28, ck_29, ck_30, ck_31, ck_32, ck_33, ck_34, ck_35, ck_36, ck_37, ck_38, ck_39, ck_40, ck_41, ck_42, ck_43, ck_44, ck_45, ck_46, ck_47, ck_48, ck_49, ck_50, ck_51, ck_52, ck_53, ck_54, ck_55, ck_56, ck_57, ck_58, ck_59, ck_60, ck_61, ck_62, ck_63, ck_64, ck_65, ck_66, ck_67, ck_68, ck_69, ck_70, ck_71, ck_72, ck_73, ck_74, ck_75, ck_76, ck_77, ck_78, ck_79, ck_80, ck_81, ck_82, ck_83, ck_84, ck_85, ck_86, ck_87, ck_88, ck_89, ck_90, ck_91, ck_92, ck_93, ck_94, ck_95, ck_96, ck_97, ck_98, ck_99, ck_100, ck_101, ck_102, ck_103, ck_104, ck_105, ck_106, ck_107, ck_108, ck_109, ck_110, ck_111, ck_112, ck_113, ck_114, ck_115, ck_116, ck_117, ck_118, ck_119, ck_120, ck_121, ck_122, ck_123, ck_124, ck_125, ck_126, ck_127, ck_128, ck_129, ck_130, ck_131, ck_132, ck_133, ck_134, ck_135, ck_136, ck_137, ck_138, ck_139, ck_140, ck_141, ck_142, ck_143, ck_144, ck_145, ck_146, ck_147, ck_148, ck_149, ck_150, ck_151, ck_152, ck_153, ck_154, ck_155, ck_156, ck_157, ck_158, ck_159, ck_160, ck_161, ck_162, ck_163, ck_164, ck_165, ck_166, ck_167, ck_168, ck_169, ck_170, ck_171, ck_172, ck_173, ck_174, ck_175, ck_176, ck_177, ck_178, ck_179, ck_180, ck_181, ck_182, ck_183, ck_184, ck_185, ck_186, ck_187, ck_188, ck_189, ck_190, ck_191, ck_192, ck_193, ck_194, ck_195, ck_196, ck_197, ck_198, ck_199, ck_200, ck_201, ck_202, ck_203, ck_204, ck_205, ck_206, ck_207, ck_208, ck_209, ck_210, ck_211, ck_212, ck_213, ck_214, ck_215, ck_216, ck_217, ck_218, ck_219, ck_220, ck_221, ck_222, ck_223, ck_224, ck_225, ck_226, ck_227, ck_228, ck_229, ck_230, ck_231, trivial⟩
