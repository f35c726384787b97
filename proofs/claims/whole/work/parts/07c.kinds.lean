def zkc (c o c' : Nat) : List Nat → Bool
  | [] => true
  | x :: r => (x != c || (x :: r)[o]? == some c') && zkc c o c' r
theorem zkc_ok {c o c' : Nat} : ∀ {l : List Nat}, zkc c o c' l = true → ∀ id : Nat, l[id]? = some c → l[id + o]? = some c'
  | [], _, id, h => by simp at h
  | x :: r, hc, id, h => by
    simp only [zkc, Bool.and_eq_true, Bool.or_eq_true, bne_iff_ne, ne_eq, beq_iff_eq] at hc
    cases id with
    | zero =>
      simp only [List.getElem?_cons_zero, Option.some.injEq] at h
      rw [Nat.zero_add]
      rcases hc.1 with h1 | h1
      · exact absurd h h1
      · exact h1
    | succ id =>
      rw [List.getElem?_cons_succ] at h
      rw [Nat.add_right_comm, List.getElem?_cons_succ]
      exact zkc_ok hc.2 id h
theorem zK_get {id c : Nat} (h : zK id = c) (hc : c ≠ 999) : zKL[id]? = some c := by
  unfold zK at h
  rw [List.getD_eq_getElem?_getD] at h
  cases hx : zKL[id]? with
  | none => rw [hx] at h; exact absurd h.symm hc
  | some y => rw [hx] at h; exact congrArg some h
theorem zK_of {id c : Nat} (h : zKL[id]? = some c) : zK id = c := by
  unfold zK
  rw [List.getD_eq_getElem?_getD, h]
  rfl
theorem zk_step {id c o c' : Nat} (h : zK id = c) (hc : c ≠ 999) (hk : zkc c o c' zKL = true) : zK (id + o) = c' := zK_of (zkc_ok hk id (zK_get h hc))
theorem zk_Bag_mails {id : Nat} (h : zK id = 0) : zK (id + 1) = 22 := zk_step h (by decide) (by decide +kernel)
theorem zk_Law_froms {id : Nat} (h : zK id = 1) : zK (id + 1) = 1012 := zk_step h (by decide) (by decide +kernel)
theorem zk_Law_tos {id : Nat} (h : zK id = 1) : zK (id + 2) = 1012 := zk_step h (by decide) (by decide +kernel)
theorem zk_Law_ends {id : Nat} (h : zK id = 1) : zK (id + 3) = 1012 := zk_step h (by decide) (by decide +kernel)
theorem zk_Law_codes {id : Nat} (h : zK id = 1) : zK (id + 4) = 1400 := zk_step h (by decide) (by decide +kernel)
theorem zk_Law_stack {id : Nat} (h : zK id = 1) : zK (id + 5) = 1400 := zk_step h (by decide) (by decide +kernel)
theorem zk_Law_facts {id : Nat} (h : zK id = 1) : zK (id + 6) = 1008 := zk_step h (by decide) (by decide +kernel)
theorem zk_LawReader_tokens {id : Nat} (h : zK id = 2) : zK (id + 1) = 8 := zk_step h (by decide) (by decide +kernel)
theorem zk_LawReader_draft {id : Nat} (h : zK id = 2) : zK (id + 6) = 1 := zk_step h (by decide) (by decide +kernel)
theorem zk_Mail_kinds {id : Nat} (h : zK id = 3) : zK (id + 1) = 1024 := zk_step h (by decide) (by decide +kernel)
theorem zk_Mail_weeks {id : Nat} (h : zK id = 3) : zK (id + 2) = 1024 := zk_step h (by decide) (by decide +kernel)
theorem zk_Memory_acts {id : Nat} (h : zK id = 4) : zK (id + 1) = 23 := zk_step h (by decide) (by decide +kernel)
theorem zk_PostReader_tokens {id : Nat} (h : zK id = 5) : zK (id + 1) = 8 := zk_step h (by decide) (by decide +kernel)
theorem zk_PostReader_draft {id : Nat} (h : zK id = 5) : zK (id + 6) = 9 := zk_step h (by decide) (by decide +kernel)
theorem zk_Shelving_loads {id : Nat} (h : zK id = 6) : zK (id + 1) = 1256 := zk_step h (by decide) (by decide +kernel)
theorem zk_Shelving_fewest {id : Nat} (h : zK id = 6) : zK (id + 2) = 1256 := zk_step h (by decide) (by decide +kernel)
theorem zk_Sight_mail {id : Nat} (h : zK id = 7) : zK (id + 1) = 3 := zk_step h (by decide) (by decide +kernel)
theorem zk_Tokens_text {id : Nat} (h : zK id = 8) : zK (id + 1) = 1400 := zk_step h (by decide) (by decide +kernel)
theorem zk_Tokens_codes {id : Nat} (h : zK id = 8) : zK (id + 2) = 1401 := zk_step h (by decide) (by decide +kernel)
theorem zk_Tokens_begins {id : Nat} (h : zK id = 8) : zK (id + 3) = 1401 := zk_step h (by decide) (by decide +kernel)
theorem zk_Tokens_lengths {id : Nat} (h : zK id = 8) : zK (id + 4) = 1401 := zk_step h (by decide) (by decide +kernel)
theorem zk_World_bag {id : Nat} (h : zK id = 9) : zK (id + 1) = 0 := zk_step h (by decide) (by decide +kernel)
theorem zk_World_law {id : Nat} (h : zK id = 9) : zK (id + 27) = 1 := zk_step h (by decide) (by decide +kernel)
theorem zk_World_words {id : Nat} (h : zK id = 9) : zK (id + 34) = 1012 := zk_step h (by decide) (by decide +kernel)
theorem zk_World_firsts {id : Nat} (h : zK id = 9) : zK (id + 35) = 1008 := zk_step h (by decide) (by decide +kernel)
theorem zk_World_seconds {id : Nat} (h : zK id = 9) : zK (id + 36) = 1008 := zk_step h (by decide) (by decide +kernel)
theorem zk_Post_tape {id : Nat} (h : zK id = 10) : zK (id + 1) = 1400 := zk_step h (by decide) (by decide +kernel)
theorem zk_Post_now {id : Nat} (h : zK id = 10) : zK (id + 2) = 9 := zk_step h (by decide) (by decide +kernel)
theorem zk_Post_kept {id : Nat} (h : zK id = 10) : zK (id + 39) = 9 := zk_step h (by decide) (by decide +kernel)
theorem zk_Post_memory {id : Nat} (h : zK id = 10) : zK (id + 76) = 4 := zk_step h (by decide) (by decide +kernel)
theorem zk_Post_postReader {id : Nat} (h : zK id = 10) : zK (id + 390) = 5 := zk_step h (by decide) (by decide +kernel)
theorem zk_Post_lawReader {id : Nat} (h : zK id = 10) : zK (id + 433) = 2 := zk_step h (by decide) (by decide +kernel)
theorem zk_Post_sight {id : Nat} (h : zK id = 10) : zK (id + 446) = 7 := zk_step h (by decide) (by decide +kernel)
theorem zk_Post_otherSight {id : Nat} (h : zK id = 10) : zK (id + 450) = 7 := zk_step h (by decide) (by decide +kernel)
theorem zk_Post_trialBag {id : Nat} (h : zK id = 10) : zK (id + 454) = 0 := zk_step h (by decide) (by decide +kernel)
theorem zk_Post_shelving {id : Nat} (h : zK id = 10) : zK (id + 480) = 6 := zk_step h (by decide) (by decide +kernel)
theorem zk_Post_lastsAhead {id : Nat} (h : zK id = 10) : zK (id + 483) = 24 := zk_step h (by decide) (by decide +kernel)
theorem zk_Post_tally {id : Nat} (h : zK id = 10) : zK (id + 492) = 1012 := zk_step h (by decide) (by decide +kernel)
theorem zk_Model_world {id : Nat} (h : zK id = 11) : zK (id + 1) = 3158 := zk_step h (by decide) (by decide +kernel)
theorem zk_Model_image {id : Nat} (h : zK id = 11) : zK (id + 2) = 2309 := zk_step h (by decide) (by decide +kernel)
theorem zk_Model_before {id : Nat} (h : zK id = 11) : zK (id + 3) = 2309 := zk_step h (by decide) (by decide +kernel)
theorem zk_Model_trial {id : Nat} (h : zK id = 11) : zK (id + 4) = 1460 := zk_step h (by decide) (by decide +kernel)
theorem zk_Model_acts {id : Nat} (h : zK id = 11) : zK (id + 5) = 6520 := zk_step h (by decide) (by decide +kernel)
theorem zk_Model_tape {id : Nat} (h : zK id = 11) : zK (id + 6) = 20 := zk_step h (by decide) (by decide +kernel)
theorem zk_Model_five {id : Nat} (h : zK id = 11) : zK (id + 7) = 1005 := zk_step h (by decide) (by decide +kernel)
theorem zk_Model_value {id : Nat} (h : zK id = 11) : zK (id + 8) = 1400 := zk_step h (by decide) (by decide +kernel)
theorem zk_Model_row {id : Nat} (h : zK id = 11) : zK (id + 9) = 1024 := zk_step h (by decide) (by decide +kernel)
theorem zk_Model_grown {id : Nat} (h : zK id = 11) : zK (id + 10) = 1024 := zk_step h (by decide) (by decide +kernel)
theorem zk_Model_manyThen {id : Nat} (h : zK id = 11) : zK (id + 11) = 1041 := zk_step h (by decide) (by decide +kernel)
theorem zk_Model_lengths {id : Nat} (h : zK id = 11) : zK (id + 12) = 1008 := zk_step h (by decide) (by decide +kernel)
theorem zk_Model_fewest {id : Nat} (h : zK id = 11) : zK (id + 13) = 1256 := zk_step h (by decide) (by decide +kernel)
theorem zk_Model_leading {id : Nat} (h : zK id = 11) : zK (id + 14) = 1012 := zk_step h (by decide) (by decide +kernel)
theorem zk_el22 {id : Nat} (h : zK id = 22) {i : Int32} (hi : vp_in i 8) : zK (id + 1 + 3 * i.toNatClampNeg) = 3 := by
  have h1 : ∀ j, j < 8 → zkc 22 (1 + 3 * j) 3 zKL = true := by decide +kernel
  have h2 := zk_step h (by decide) (h1 _ (Nat.not_le.mp fun q => hi (Or.inr q)))
  rwa [← Nat.add_assoc] at h2
theorem zk_el23 {id : Nat} (h : zK id = 23) {i : Int32} (hi : vp_in i 12) : zK (id + 1 + 26 * i.toNatClampNeg) = 0 := by
  have h1 : ∀ j, j < 12 → zkc 23 (1 + 26 * j) 0 zKL = true := by decide +kernel
  have h2 := zk_step h (by decide) (h1 _ (Nat.not_le.mp fun q => hi (Or.inr q)))
  rwa [← Nat.add_assoc] at h2
theorem zk_el24 {id : Nat} (h : zK id = 24) {i : Int32} (hi : vp_in i 8) : zK (id + 1 + i.toNatClampNeg) = 1041 := by
  have h1 : ∀ j, j < 8 → zkc 24 (1 + j) 1041 zKL = true := by decide +kernel
  have h2 := zk_step h (by decide) (h1 _ (Nat.not_le.mp fun q => hi (Or.inr q)))
  rwa [← Nat.add_assoc] at h2
