/-! the law's loop -/
def zII (g : zM) : Prop := ∃ S : zS, zSW S ∧ zCI S g ∧ zRI S g
theorem zRI.o {S : zS} {g g1 : zM} (e : zRI S g) (f : ∀ c, 493 ≤ c → c ≠ 508 → g1 c = g c) : zRI S g1 := by
  have e' := e
  unfold zRI zRW zRB zRL zRM at e' ⊢
  simp only [f 493 (by omega) (by omega), f 494 (by omega) (by omega), f 495 (by omega) (by omega), f 498 (by omega) (by omega), f 499 (by omega) (by omega)]
  exact e'
theorem lg_r {a : Int64} : lg_cmp a a = 0 := by
  unfold lg_cmp
  have h : ¬ a > a := Int64.lt_irrefl
  rw [if_neg h, if_pos rfl]
theorem nI_s : ∀ n, n < 16 → ¬ nI (n + 1) = 0 := by decide +kernel
theorem x_gen {l : List Nat} {S : zS} {f : zM → Option (Except Nat Int32 × zM)} {fm : zM → Option (Int32 × zM)} (h : zDo l S f fm) {g : zM} (hC : zCI S g) (hR : zRI S g) {H : Nat → zM → Option (Int32 × zM)} (hH : ∀ c, c ∈ l → ∀ g, H c g = some (nI (l.idxOf c + 1), g)) (hl : l.length < 16) {kk : zM → Option Unit} (hk : ∀ g, zII g → kk g = some ()) : zb2 (zb3w (f g) (fun r_1 g1 => zchk 0 1 (zput g1 508 (0 : Int32).toNatClampNeg r_1 (fun g5 => some (0, g5)))) H) (fun r_3 g3 => zb2 (fm g3) (fun r_6 g6 => zb (fX12_thrown g6) (fun r_7 => if r_7 = r_3 then if r_3 = 0 then zchk 0 1 (if (lg_cmp ((g6 508 (0 : Int32).toNatClampNeg).toInt64) r_6.toInt64) = 0 then kk g6 else none) else kk g6 else none))) = some () := by
  obtain ⟨r, S', hW, h1, h2⟩ := h
  obtain ⟨g1, a1, a2, a3⟩ := h1 g hC
  rw [a1]
  cases r with
  | ok a =>
    show zb2 (zchk 0 1 (zput g1 508 (0 : Int32).toNatClampNeg a (fun g5 => some (0, g5)))) _ = _
    have hz : (0 : Int32).toNatClampNeg = 0 := nL_clamp (by decide)
    rw [hz, zchk_l (by decide) (by decide), zput_e, zb2_s]
    obtain ⟨b, g6, b1, b2, b3, b4, b5⟩ := h2 (zset g1 508 0 a) (hR.o (fun c c1 c2 => by rw [zs_cell c2]; exact a3 c c1))
    have b50 : g6 493 0 = 0 ∧ b = a := b5
    obtain ⟨b51, rfl⟩ := b50
    have b6 : g6 508 0 = b := by rw [b4]; exact zs_hit ⟨rfl, rfl⟩
    have ht : fX12_thrown g6 = some 0 := by unfold fX12_thrown; rw [b51]
    rw [b1, zb2_s, ht, zb_s, if_pos rfl, if_pos rfl, zchk_l (by decide) (by decide), b6, if_pos lg_r]
    exact hk g6 ⟨S', hW, a2.fc hW (fun c c1 => by rw [b3 c c1, zs_cell (by omega)]), b2⟩
  | error c =>
    show zb2 (H c g1) _ = _
    obtain ⟨b, g6, b1, b2, b3, b4, b5⟩ := h2 g1 (hR.fc a3)
    have b5 : c ∈ l ∧ g6 493 0 = nI (l.idxOf c + 1) := b5
    have ht : fX12_thrown g6 = some (nI (l.idxOf c + 1)) := by unfold fX12_thrown; rw [b5.2]
    have hlt : l.idxOf c < l.length := List.idxOf_lt_length_of_mem b5.1
    rw [hH c b5.1, zb2_s, b1, zb2_s, ht, zb_s, if_pos rfl, if_neg (nI_s _ (by omega))]
    exact hk g6 ⟨S', hW, a2.fc hW (fun c c1 => b3 c c1), b2⟩
theorem x_bool {l : List Nat} {S : zS} {f : zM → Option (Except Nat Int32 × zM)} {fm : zM → Option (Int32 × zM)} (h : zDo l S f fm) {g : zM} (hC : zCI S g) (hR : zRI S g) {H : Nat → zM → Option (Int32 × zM)} (hH : ∀ c, c ∈ l → ∀ g, H c g = some (nI (l.idxOf c + 1), g)) (hl : l.length < 16) {kk : zM → Option Unit} (hk : ∀ g, zII g → kk g = some ()) : zb2 (zb3w (f g) (fun r_1 g1 => if r_1 = 0 then zchk 0 1 (zput g1 508 (0 : Int32).toNatClampNeg 0 (fun g5 => some (0, g5))) else zchk 0 1 (zput g1 508 (0 : Int32).toNatClampNeg 1 (fun g7 => some (0, g7)))) H) (fun r_4 g4 => zb2 (fm g4) (fun r_8 g8 => zb (fX12_thrown g8) (fun r_9 => if r_9 = r_4 then if r_4 = 0 then zchk 0 1 (if r_8 = 0 then if (lg_cmp ((g8 508 (0 : Int32).toNatClampNeg).toInt64) ((0 : Int32).toInt64)) = 0 then kk g8 else none else if (lg_cmp ((g8 508 (0 : Int32).toNatClampNeg).toInt64) ((1 : Int32).toInt64)) = 0 then kk g8 else none) else kk g8 else none))) = some () := by
  obtain ⟨r, S', hW, h1, h2⟩ := h
  obtain ⟨g1, a1, a2, a3⟩ := h1 g hC
  rw [a1]
  have hz : (0 : Int32).toNatClampNeg = 0 := nL_clamp (by decide)
  cases r with
  | ok a =>
    show zb2 (if a = 0 then zchk 0 1 (zput g1 508 (0 : Int32).toNatClampNeg 0 (fun g5 => some (0, g5))) else zchk 0 1 (zput g1 508 (0 : Int32).toNatClampNeg 1 (fun g7 => some (0, g7)))) _ = _
    rw [hz]
    by_cases q : a = 0
    · rw [if_pos q, zchk_l (by decide) (by decide), zput_e, zb2_s]
      obtain ⟨b, g6, b1, b2, b3, b4, b5⟩ := h2 (zset g1 508 0 0) (hR.o (fun c c1 c2 => by rw [zs_cell c2]; exact a3 c c1))
      have b50 : g6 493 0 = 0 ∧ b = a := b5
      obtain ⟨b51, rfl⟩ := b50
      have b6 : g6 508 0 = 0 := by rw [b4]; exact zs_hit ⟨rfl, rfl⟩
      have ht : fX12_thrown g6 = some 0 := by unfold fX12_thrown; rw [b51]
      rw [b1, zb2_s, ht, zb_s, if_pos rfl, if_pos rfl, zchk_l (by decide) (by decide), b6, if_pos q, if_pos lg_r]
      exact hk g6 ⟨S', hW, a2.fc hW (fun c c1 => by rw [b3 c c1, zs_cell (by omega)]), b2⟩
    · rw [if_neg q, zchk_l (by decide) (by decide), zput_e, zb2_s]
      obtain ⟨b, g6, b1, b2, b3, b4, b5⟩ := h2 (zset g1 508 0 1) (hR.o (fun c c1 c2 => by rw [zs_cell c2]; exact a3 c c1))
      have b50 : g6 493 0 = 0 ∧ b = a := b5
      obtain ⟨b51, rfl⟩ := b50
      have b6 : g6 508 0 = 1 := by rw [b4]; exact zs_hit ⟨rfl, rfl⟩
      have ht : fX12_thrown g6 = some 0 := by unfold fX12_thrown; rw [b51]
      rw [b1, zb2_s, ht, zb_s, if_pos rfl, if_pos rfl, zchk_l (by decide) (by decide), b6, if_neg q, if_pos lg_r]
      exact hk g6 ⟨S', hW, a2.fc hW (fun c c1 => by rw [b3 c c1, zs_cell (by omega)]), b2⟩
  | error c =>
    show zb2 (H c g1) _ = _
    obtain ⟨b, g6, b1, b2, b3, b4, b5⟩ := h2 g1 (hR.fc a3)
    have b5 : c ∈ l ∧ g6 493 0 = nI (l.idxOf c + 1) := b5
    have ht : fX12_thrown g6 = some (nI (l.idxOf c + 1)) := by unfold fX12_thrown; rw [b5.2]
    have hlt : l.idxOf c < l.length := List.idxOf_lt_length_of_mem b5.1
    rw [hH c b5.1, zb2_s, b1, zb2_s, ht, zb_s, if_pos rfl, if_neg (nI_s _ (by omega))]
    exact hk g6 ⟨S', hW, a2.fc hW (fun c c1 => b3 c c1), b2⟩
theorem x_n2 {S : zS} {f fm : zM → Option (Int32 × zM)} (h : zDoN S f fm) {g : zM} (hC : zCI S g) (hR : zRI S g) {kk : zM → Option Unit} (hk : ∀ g, zII g → kk g = some ()) : zb2 (f g) (fun r_2 g2 => zb2 (fm g2) (fun r_4 g4 => if r_2 = r_4 then kk g4 else none)) = some () := by
  obtain ⟨r, S', hW, h1, h2⟩ := h
  obtain ⟨g1, a1, a2, a3⟩ := h1 g hC
  obtain ⟨g6, b1, b2, b3, b4⟩ := h2 g1 (hR.fc a3)
  rw [a1, zb2_s, b1, zb2_s, if_pos rfl]
  exact hk g6 ⟨S', hW, a2.fc hW b3, b2⟩
theorem x_n {S : zS} (hS : zSW S) {f : zM → Option Int32} {fm : zM → Option (Int32 × zM)} (h : zAskN S f fm) {g : zM} (hC : zCI S g) (hR : zRI S g) {kk : zM → Option Unit} (hk : ∀ g, zII g → kk g = some ()) : zb (f g) (fun r_1 => zb2 (fm g) (fun r_2 g2 => if r_1 = r_2 then kk g2 else none)) = some () := by
  obtain ⟨r, h1, h2⟩ := h
  obtain ⟨g6, b1, b2⟩ := h2 g hR
  rw [h1 g hC, zb_s, b1, zb2_s, if_pos rfl]
  exact hk g6 ⟨S, hS, hC.fc hS b2.1, hR.fr hS b2⟩
theorem x_u {S : zS} {f fm : zM → Option zM} (h : zDoU S f fm) {g : zM} (hC : zCI S g) (hR : zRI S g) {kk : zM → Option Unit} (hk : ∀ g, zII g → kk g = some ()) : zb (f g) (fun g1 => zb (fm g1) (fun g2 => kk g2)) = some () := by
  obtain ⟨S', hW, h1, h2⟩ := h
  obtain ⟨g1, a1, a2, a3⟩ := h1 g hC
  obtain ⟨g6, b1, b2, b3, b4⟩ := h2 g1 (hR.fc a3)
  rw [a1, zb_s, b1, zb_s]
  exact hk g6 ⟨S', hW, a2.fc hW b3, b2⟩
theorem x_drawer {S : zS} (hS : zSW S) : zDoN S fX11_drawer fX12_drawer := by
  obtain ⟨r, h1, h2⟩ := m_drawer hS
  refine ⟨r, S, hS, fun g e => ?_, fun g e => ?_⟩
  · obtain ⟨g1, a1, a2⟩ := h1 g e
    exact ⟨g1, a1, e.fr hS a2, fun c hc => a2.1 c (by omega) (by omega) (Or.inr hc)⟩
  · obtain ⟨g1, a1, a2⟩ := h2 g e
    exact ⟨g1, a1, e.fr hS a2, a2.1, a2.2.2.2.2.2.1⟩
theorem x_0 {L : Nat} {xs : Nat → Int32} {kk : zM → Option Unit} {a : Nat} (ha : a + 6 ≤ L) (hL : L < 2147483000) (hk : ∀ g, zII g → kk g = some ()) {g : zM} (hg : zII g) : fLc_0 L xs kk (nI a) g = some () := by
  obtain ⟨S, hS, hC, hR⟩ := hg
  unfold fLc_0
  simp (disch := omega) only [nL_add, nI_cl, zchk_n]
  exact x_n2 (m_feed hS _ _ _ _ _) hC hR hk
theorem x_1 {L : Nat} {xs : Nat → Int32} {kk : zM → Option Unit} {a : Nat} (ha : a + 6 ≤ L) (hL : L < 2147483000) (hk : ∀ g, zII g → kk g = some ()) {g : zM} (hg : zII g) : fLc_1 L xs kk (nI a) g = some () := by
  obtain ⟨S, hS, hC, hR⟩ := hg
  unfold fLc_1
  simp (disch := omega) only [nL_add, nI_cl, zchk_n]
  exact x_n2 (m_end hS _) hC hR hk
theorem x_2 (hm : ∀ S, zSW S → zDo [2, 4] S fX11_post fX12_post) {L : Nat} {xs : Nat → Int32} {kk : zM → Option Unit} {a : Nat} (ha : a + 6 ≤ L) (hL : L < 2147483000) (hk : ∀ g, zII g → kk g = some ()) {g : zM} (hg : zII g) : fLc_2 L xs kk (nI a) g = some () := by
  obtain ⟨S, hS, hC, hR⟩ := hg
  unfold fLc_2 fL_post
  exact x_gen (hm S hS) hC hR (by intro c hc g; simp only [List.mem_cons, List.mem_nil_iff, or_false] at hc; rcases hc with rfl | rfl <;> rfl) (by decide) hk
theorem x_3 (hm : ∀ S, zSW S → zDo [2] S fX11_law fX12_law) {L : Nat} {xs : Nat → Int32} {kk : zM → Option Unit} {a : Nat} (ha : a + 6 ≤ L) (hL : L < 2147483000) (hk : ∀ g, zII g → kk g = some ()) {g : zM} (hg : zII g) : fLc_3 L xs kk (nI a) g = some () := by
  obtain ⟨S, hS, hC, hR⟩ := hg
  unfold fLc_3 fL_law
  exact x_gen (hm S hS) hC hR (by intro c hc g; simp only [List.mem_cons, List.mem_nil_iff, or_false] at hc; subst hc; rfl) (by decide) hk
theorem x_4 {L : Nat} {xs : Nat → Int32} {kk : zM → Option Unit} {a : Nat} (ha : a + 6 ≤ L) (hL : L < 2147483000) (hk : ∀ g, zII g → kk g = some ()) {g : zM} (hg : zII g) : fLc_4 L xs kk (nI a) g = some () := by
  obtain ⟨S, hS, hC, hR⟩ := hg
  unfold fLc_4
  exact x_n hS (m_fault hS) hC hR hk
theorem x_5 {L : Nat} {xs : Nat → Int32} {kk : zM → Option Unit} {a : Nat} (ha : a + 6 ≤ L) (hL : L < 2147483000) (hk : ∀ g, zII g → kk g = some ()) {g : zM} (hg : zII g) : fLc_5 L xs kk (nI a) g = some () := by
  obtain ⟨S, hS, hC, hR⟩ := hg
  unfold fLc_5 fL_letter
  simp (disch := omega) only [nL_add, nI_cl, zchk_n]
  exact x_gen ((m_letter hS _ _).do hS) hC hR (by intro c hc g; simp only [List.mem_cons, List.mem_nil_iff, or_false] at hc; rcases hc with rfl | rfl <;> rfl) (by decide) hk
theorem x_6 {L : Nat} {xs : Nat → Int32} {kk : zM → Option Unit} {a : Nat} (ha : a + 6 ≤ L) (hL : L < 2147483000) (hk : ∀ g, zII g → kk g = some ()) {g : zM} (hg : zII g) : fLc_6 L xs kk (nI a) g = some () := by
  obtain ⟨S, hS, hC, hR⟩ := hg
  unfold fLc_6 fL_line
  simp (disch := omega) only [nL_add, nI_cl, zchk_n]
  by_cases q : xs (a + 3) = 0
  · simp only [q, if_true]
    exact x_gen ((m_line hS _ _ false).do hS) hC hR (by intro c hc g; simp only [List.mem_cons, List.mem_nil_iff, or_false] at hc; subst hc; rfl) (by decide) hk
  · simp only [q, if_false]
    exact x_gen ((m_line hS _ _ true).do hS) hC hR (by intro c hc g; simp only [List.mem_cons, List.mem_nil_iff, or_false] at hc; subst hc; rfl) (by decide) hk
theorem x_7 {L : Nat} {xs : Nat → Int32} {kk : zM → Option Unit} {a : Nat} (ha : a + 6 ≤ L) (hL : L < 2147483000) (hk : ∀ g, zII g → kk g = some ()) {g : zM} (hg : zII g) : fLc_7 L xs kk (nI a) g = some () := by
  obtain ⟨S, hS, hC, hR⟩ := hg
  unfold fLc_7 fL_words
  simp (disch := omega) only [nL_add, nI_cl, zchk_n]
  exact x_gen ((m_words hS _).do hS) hC hR (by intro c hc g; simp only [List.mem_cons, List.mem_nil_iff, or_false] at hc; subst hc; rfl) (by decide) hk
theorem x_8 {L : Nat} {xs : Nat → Int32} {kk : zM → Option Unit} {a : Nat} (ha : a + 6 ≤ L) (hL : L < 2147483000) (hk : ∀ g, zII g → kk g = some ()) {g : zM} (hg : zII g) : fLc_8 L xs kk (nI a) g = some () := by
  obtain ⟨S, hS, hC, hR⟩ := hg
  unfold fLc_8 fL_promise
  simp (disch := omega) only [nL_add, nI_cl, zchk_n]
  by_cases q : xs (a + 2) = 0
  · simp only [q, if_true]
    exact x_gen ((m_promise hS _ false).do hS) hC hR (by intro c hc g; simp only [List.mem_cons, List.mem_nil_iff, or_false] at hc; subst hc; rfl) (by decide) hk
  · simp only [q, if_false]
    exact x_gen ((m_promise hS _ true).do hS) hC hR (by intro c hc g; simp only [List.mem_cons, List.mem_nil_iff, or_false] at hc; subst hc; rfl) (by decide) hk
theorem x_9 {L : Nat} {xs : Nat → Int32} {kk : zM → Option Unit} {a : Nat} (ha : a + 6 ≤ L) (hL : L < 2147483000) (hk : ∀ g, zII g → kk g = some ()) {g : zM} (hg : zII g) : fLc_9 L xs kk (nI a) g = some () := by
  obtain ⟨S, hS, hC, hR⟩ := hg
  unfold fLc_9 fL_season
  simp (disch := omega) only [nL_add, nI_cl, zchk_n]
  exact x_gen ((m_season (S := S) _).do hS) hC hR (by intro c hc g; simp only [List.mem_cons, List.mem_nil_iff, or_false] at hc; subst hc; rfl) (by decide) hk
theorem x_10 {L : Nat} {xs : Nat → Int32} {kk : zM → Option Unit} {a : Nat} (ha : a + 6 ≤ L) (hL : L < 2147483000) (hk : ∀ g, zII g → kk g = some ()) {g : zM} (hg : zII g) : fLc_10 L xs kk (nI a) g = some () := by
  obtain ⟨S, hS, hC, hR⟩ := hg
  unfold fLc_10 fL_write
  simp (disch := omega) only [nL_add, nI_cl, zchk_n]
  exact x_gen (m_write hS _ _) hC hR (by intro c hc g; simp only [List.mem_cons, List.mem_nil_iff, or_false] at hc; rcases hc with rfl | rfl <;> rfl) (by decide) hk
theorem x_11 {L : Nat} {xs : Nat → Int32} {kk : zM → Option Unit} {a : Nat} (ha : a + 6 ≤ L) (hL : L < 2147483000) (hk : ∀ g, zII g → kk g = some ()) {g : zM} (hg : zII g) : fLc_11 L xs kk (nI a) g = some () := by
  obtain ⟨S, hS, hC, hR⟩ := hg
  unfold fLc_11 fL_open
  simp (disch := omega) only [nL_add, nI_cl, zchk_n]
  by_cases q : xs (a + 2) = 0
  · simp only [q, if_true]
    exact x_bool (m_open hS _ false) hC hR (by intro c hc g; simp only [List.mem_cons, List.mem_nil_iff, or_false] at hc; subst hc; rfl) (by decide) hk
  · simp only [q, if_false]
    exact x_bool (m_open hS _ true) hC hR (by intro c hc g; simp only [List.mem_cons, List.mem_nil_iff, or_false] at hc; subst hc; rfl) (by decide) hk
theorem x_12 {L : Nat} {xs : Nat → Int32} {kk : zM → Option Unit} {a : Nat} (ha : a + 6 ≤ L) (hL : L < 2147483000) (hk : ∀ g, zII g → kk g = some ()) {g : zM} (hg : zII g) : fLc_12 L xs kk (nI a) g = some () := by
  obtain ⟨S, hS, hC, hR⟩ := hg
  unfold fLc_12 fL_copy
  simp (disch := omega) only [nL_add, nI_cl, zchk_n]
  exact x_gen (m_copy hS _) hC hR (by intro c hc g; simp only [List.mem_cons, List.mem_nil_iff, or_false] at hc; rcases hc with rfl | rfl <;> rfl) (by decide) hk
theorem x_13 {L : Nat} {xs : Nat → Int32} {kk : zM → Option Unit} {a : Nat} (ha : a + 6 ≤ L) (hL : L < 2147483000) (hk : ∀ g, zII g → kk g = some ()) {g : zM} (hg : zII g) : fLc_13 L xs kk (nI a) g = some () := by
  obtain ⟨S, hS, hC, hR⟩ := hg
  unfold fLc_13 fL_prune
  simp (disch := omega) only [nL_add, nI_cl, zchk_n]
  exact x_gen (m_prune hS _ _) hC hR (by intro c hc g; simp only [List.mem_cons, List.mem_nil_iff, or_false] at hc; rcases hc with rfl | rfl <;> rfl) (by decide) hk
theorem x_14 {L : Nat} {xs : Nat → Int32} {kk : zM → Option Unit} {a : Nat} (ha : a + 6 ≤ L) (hL : L < 2147483000) (hk : ∀ g, zII g → kk g = some ()) {g : zM} (hg : zII g) : fLc_14 L xs kk (nI a) g = some () := by
  obtain ⟨S, hS, hC, hR⟩ := hg
  unfold fLc_14 fL_cut
  simp (disch := omega) only [nL_add, nI_cl, zchk_n]
  exact x_gen (m_cut hS _ _) hC hR (by intro c hc g; simp only [List.mem_cons, List.mem_nil_iff, or_false] at hc; rcases hc with rfl | rfl <;> rfl) (by decide) hk
theorem x_15 {L : Nat} {xs : Nat → Int32} {kk : zM → Option Unit} {a : Nat} (ha : a + 6 ≤ L) (hL : L < 2147483000) (hk : ∀ g, zII g → kk g = some ()) {g : zM} (hg : zII g) : fLc_15 L xs kk (nI a) g = some () := by
  obtain ⟨S, hS, hC, hR⟩ := hg
  unfold fLc_15 fL_heat
  simp (disch := omega) only [nL_add, nI_cl, zchk_n]
  by_cases q : xs (a + 2) = 0
  · simp only [q, if_true]
    exact x_bool (m_heat hS _ false) hC hR (by intro c hc g; simp only [List.mem_cons, List.mem_nil_iff, or_false] at hc; subst hc; rfl) (by decide) hk
  · simp only [q, if_false]
    exact x_bool (m_heat hS _ true) hC hR (by intro c hc g; simp only [List.mem_cons, List.mem_nil_iff, or_false] at hc; subst hc; rfl) (by decide) hk
theorem x_16 {L : Nat} {xs : Nat → Int32} {kk : zM → Option Unit} {a : Nat} (ha : a + 6 ≤ L) (hL : L < 2147483000) (hk : ∀ g, zII g → kk g = some ()) {g : zM} (hg : zII g) : fLc_16 L xs kk (nI a) g = some () := by
  obtain ⟨S, hS, hC, hR⟩ := hg
  unfold fLc_16 fL_burn
  simp (disch := omega) only [nL_add, nI_cl, zchk_n]
  exact x_gen (m_burn hS _) hC hR (by intro c hc g; simp only [List.mem_cons, List.mem_nil_iff, or_false] at hc; subst hc; rfl) (by decide) hk
theorem x_17 {L : Nat} {xs : Nat → Int32} {kk : zM → Option Unit} {a : Nat} (ha : a + 6 ≤ L) (hL : L < 2147483000) (hk : ∀ g, zII g → kk g = some ()) {g : zM} (hg : zII g) : fLc_17 L xs kk (nI a) g = some () := by
  obtain ⟨S, hS, hC, hR⟩ := hg
  unfold fLc_17 fL_weeks
  simp (disch := omega) only [nL_add, nI_cl, zchk_n]
  exact x_gen (m_weeks hS _) hC hR (by intro c hc g; simp only [List.mem_cons, List.mem_nil_iff, or_false] at hc; subst hc; rfl) (by decide) hk
theorem x_18 {L : Nat} {xs : Nat → Int32} {kk : zM → Option Unit} {a : Nat} (ha : a + 6 ≤ L) (hL : L < 2147483000) (hk : ∀ g, zII g → kk g = some ()) {g : zM} (hg : zII g) : fLc_18 L xs kk (nI a) g = some () := by
  obtain ⟨S, hS, hC, hR⟩ := hg
  unfold fLc_18 fL_ahead
  simp (disch := omega) only [nL_add, nI_cl, zchk_n]
  exact x_gen ((m_ahead hS _ _ _).do hS) hC hR (by intro c hc g; simp only [List.mem_cons, List.mem_nil_iff, or_false] at hc; rcases hc with rfl | rfl | rfl <;> rfl) (by decide) hk
theorem x_19 {L : Nat} {xs : Nat → Int32} {kk : zM → Option Unit} {a : Nat} (ha : a + 6 ≤ L) (hL : L < 2147483000) (hk : ∀ g, zII g → kk g = some ()) {g : zM} (hg : zII g) : fLc_19 L xs kk (nI a) g = some () := by
  obtain ⟨S, hS, hC, hR⟩ := hg
  unfold fLc_19 fL_says
  simp (disch := omega) only [nL_add, nI_cl, zchk_n]
  by_cases q : xs (a + 3) = 0
  · simp only [q, if_true]
    exact x_gen ((m_says hS _ _ false).do hS) hC hR (by intro c hc g; simp only [List.mem_cons, List.mem_nil_iff, or_false] at hc; subst hc; rfl) (by decide) hk
  · simp only [q, if_false]
    exact x_gen ((m_says hS _ _ true).do hS) hC hR (by intro c hc g; simp only [List.mem_cons, List.mem_nil_iff, or_false] at hc; subst hc; rfl) (by decide) hk
theorem x_20 {L : Nat} {xs : Nat → Int32} {kk : zM → Option Unit} {a : Nat} (ha : a + 6 ≤ L) (hL : L < 2147483000) (hk : ∀ g, zII g → kk g = some ()) {g : zM} (hg : zII g) : fLc_20 L xs kk (nI a) g = some () := by
  obtain ⟨S, hS, hC, hR⟩ := hg
  unfold fLc_20 fL_stops
  simp (disch := omega) only [nL_add, nI_cl, zchk_n]
  exact x_gen ((m_stops hS _).do hS) hC hR (by intro c hc g; simp only [List.mem_cons, List.mem_nil_iff, or_false] at hc; subst hc; rfl) (by decide) hk
theorem x_21 {L : Nat} {xs : Nat → Int32} {kk : zM → Option Unit} {a : Nat} (ha : a + 6 ≤ L) (hL : L < 2147483000) (hk : ∀ g, zII g → kk g = some ()) {g : zM} (hg : zII g) : fLc_21 L xs kk (nI a) g = some () := by
  obtain ⟨S, hS, hC, hR⟩ := hg
  unfold fLc_21 fL_stays
  simp (disch := omega) only [nL_add, nI_cl, zchk_n]
  exact x_gen ((m_stays hS _ _).do hS) hC hR (by intro c hc g; simp only [List.mem_cons, List.mem_nil_iff, or_false] at hc; subst hc; rfl) (by decide) hk
theorem x_22 {L : Nat} {xs : Nat → Int32} {kk : zM → Option Unit} {a : Nat} (ha : a + 6 ≤ L) (hL : L < 2147483000) (hk : ∀ g, zII g → kk g = some ()) {g : zM} (hg : zII g) : fLc_22 L xs kk (nI a) g = some () := by
  obtain ⟨S, hS, hC, hR⟩ := hg
  unfold fLc_22 fL_send
  simp (disch := omega) only [nL_add, nI_cl, zchk_n]
  by_cases q : xs (a + 5) = 0
  · simp only [q, if_true]
    exact x_gen ((m_send hS _ _ _ _ false).do hS) hC hR (by intro c hc g; simp only [List.mem_cons, List.mem_nil_iff, or_false] at hc; rcases hc with rfl | rfl <;> rfl) (by decide) hk
  · simp only [q, if_false]
    exact x_gen ((m_send hS _ _ _ _ true).do hS) hC hR (by intro c hc g; simp only [List.mem_cons, List.mem_nil_iff, or_false] at hc; rcases hc with rfl | rfl <;> rfl) (by decide) hk
theorem x_23 {L : Nat} {xs : Nat → Int32} {kk : zM → Option Unit} {a : Nat} (ha : a + 6 ≤ L) (hL : L < 2147483000) (hk : ∀ g, zII g → kk g = some ()) {g : zM} (hg : zII g) : fLc_23 L xs kk (nI a) g = some () := by
  obtain ⟨S, hS, hC, hR⟩ := hg
  unfold fLc_23 fL_cuts
  simp (disch := omega) only [nL_add, nI_cl, zchk_n]
  by_cases q : xs (a + 4) = 0
  · simp only [q, if_true]
    exact x_gen ((m_cuts hS _ _ _ false).do hS) hC hR (by intro c hc g; simp only [List.mem_cons, List.mem_nil_iff, or_false] at hc; rcases hc with rfl | rfl <;> rfl) (by decide) hk
  · simp only [q, if_false]
    exact x_gen ((m_cuts hS _ _ _ true).do hS) hC hR (by intro c hc g; simp only [List.mem_cons, List.mem_nil_iff, or_false] at hc; rcases hc with rfl | rfl <;> rfl) (by decide) hk
theorem x_24 {L : Nat} {xs : Nat → Int32} {kk : zM → Option Unit} {a : Nat} (ha : a + 6 ≤ L) (hL : L < 2147483000) (hk : ∀ g, zII g → kk g = some ()) {g : zM} (hg : zII g) : fLc_24 L xs kk (nI a) g = some () := by
  obtain ⟨S, hS, hC, hR⟩ := hg
  unfold fLc_24 fL_out
  simp (disch := omega) only [nL_add, nI_cl, zchk_n]
  by_cases q : xs (a + 4) = 0
  · simp only [q, if_true]
    exact x_gen ((m_out hS _ _ _ false).do hS) hC hR (by intro c hc g; simp only [List.mem_cons, List.mem_nil_iff, or_false] at hc; rcases hc with rfl | rfl <;> rfl) (by decide) hk
  · simp only [q, if_false]
    exact x_gen ((m_out hS _ _ _ true).do hS) hC hR (by intro c hc g; simp only [List.mem_cons, List.mem_nil_iff, or_false] at hc; rcases hc with rfl | rfl <;> rfl) (by decide) hk
theorem x_25 {L : Nat} {xs : Nat → Int32} {kk : zM → Option Unit} {a : Nat} (ha : a + 6 ≤ L) (hL : L < 2147483000) (hk : ∀ g, zII g → kk g = some ()) {g : zM} (hg : zII g) : fLc_25 L xs kk (nI a) g = some () := by
  obtain ⟨S, hS, hC, hR⟩ := hg
  unfold fLc_25 fL_astray
  simp (disch := omega) only [nL_add, nI_cl, zchk_n]
  exact x_gen ((m_astray hS _).do hS) hC hR (by intro c hc g; simp only [List.mem_cons, List.mem_nil_iff, or_false] at hc; subst hc; rfl) (by decide) hk
theorem x_26 {L : Nat} {xs : Nat → Int32} {kk : zM → Option Unit} {a : Nat} (ha : a + 6 ≤ L) (hL : L < 2147483000) (hk : ∀ g, zII g → kk g = some ()) {g : zM} (hg : zII g) : fLc_26 L xs kk (nI a) g = some () := by
  obtain ⟨S, hS, hC, hR⟩ := hg
  unfold fLc_26 fL_written
  simp (disch := omega) only [nL_add, nI_cl, zchk_n]
  exact x_gen ((m_written hS _).do hS) hC hR (by intro c hc g; simp only [List.mem_cons, List.mem_nil_iff, or_false] at hc; subst hc; rfl) (by decide) hk
theorem x_27 {L : Nat} {xs : Nat → Int32} {kk : zM → Option Unit} {a : Nat} (ha : a + 6 ≤ L) (hL : L < 2147483000) (hk : ∀ g, zII g → kk g = some ()) {g : zM} (hg : zII g) : fLc_27 L xs kk (nI a) g = some () := by
  obtain ⟨S, hS, hC, hR⟩ := hg
  unfold fLc_27 fL_senseless
  simp (disch := omega) only [nL_add, nI_cl, zchk_n]
  exact x_gen ((m_senseless hS _).do hS) hC hR (by intro c hc g; simp only [List.mem_cons, List.mem_nil_iff, or_false] at hc; subst hc; rfl) (by decide) hk
theorem x_28 {L : Nat} {xs : Nat → Int32} {kk : zM → Option Unit} {a : Nat} (ha : a + 6 ≤ L) (hL : L < 2147483000) (hk : ∀ g, zII g → kk g = some ()) {g : zM} (hg : zII g) : fLc_28 L xs kk (nI a) g = some () := by
  obtain ⟨S, hS, hC, hR⟩ := hg
  unfold fLc_28 fL_meet
  simp (disch := omega) only [nL_add, nI_cl, zchk_n]
  by_cases q : xs (a + 3) = 0
  · simp only [q, if_true]
    exact x_gen ((m_meet hS _ _ false).do hS) hC hR (by intro c hc g; simp only [List.mem_cons, List.mem_nil_iff, or_false] at hc; rcases hc with rfl | rfl <;> rfl) (by decide) hk
  · simp only [q, if_false]
    exact x_gen ((m_meet hS _ _ true).do hS) hC hR (by intro c hc g; simp only [List.mem_cons, List.mem_nil_iff, or_false] at hc; rcases hc with rfl | rfl <;> rfl) (by decide) hk
theorem x_29 {L : Nat} {xs : Nat → Int32} {kk : zM → Option Unit} {a : Nat} (ha : a + 6 ≤ L) (hL : L < 2147483000) (hk : ∀ g, zII g → kk g = some ()) {g : zM} (hg : zII g) : fLc_29 L xs kk (nI a) g = some () := by
  obtain ⟨S, hS, hC, hR⟩ := hg
  unfold fLc_29 fL_part
  simp (disch := omega) only [nL_add, nI_cl, zchk_n]
  exact x_gen ((m_part hS _ _).do hS) hC hR (by intro c hc g; simp only [List.mem_cons, List.mem_nil_iff, or_false] at hc; rcases hc with rfl | rfl <;> rfl) (by decide) hk
theorem x_30 {L : Nat} {xs : Nat → Int32} {kk : zM → Option Unit} {a : Nat} (ha : a + 6 ≤ L) (hL : L < 2147483000) (hk : ∀ g, zII g → kk g = some ()) {g : zM} (hg : zII g) : fLc_30 L xs kk (nI a) g = some () := by
  obtain ⟨S, hS, hC, hR⟩ := hg
  unfold fLc_30
  exact x_n2 (x_drawer hS) hC hR hk
theorem x_31 {L : Nat} {xs : Nat → Int32} {kk : zM → Option Unit} {a : Nat} (ha : a + 6 ≤ L) (hL : L < 2147483000) (hk : ∀ g, zII g → kk g = some ()) {g : zM} (hg : zII g) : fLc_31 L xs kk (nI a) g = some () := by
  obtain ⟨S, hS, hC, hR⟩ := hg
  unfold fLc_31 fL_bound
  simp (disch := omega) only [nL_add, nI_cl, zchk_n]
  exact x_gen ((m_bound hS _ _).do hS) hC hR (by intro c hc g; simp only [List.mem_cons, List.mem_nil_iff, or_false] at hc; rcases hc with rfl | rfl <;> rfl) (by decide) hk
theorem x_32 {L : Nat} {xs : Nat → Int32} {kk : zM → Option Unit} {a : Nat} (ha : a + 6 ≤ L) (hL : L < 2147483000) (hk : ∀ g, zII g → kk g = some ()) {g : zM} (hg : zII g) : fLc_32 L xs kk (nI a) g = some () := by
  obtain ⟨S, hS, hC, hR⟩ := hg
  unfold fLc_32 fL_when
  simp (disch := omega) only [nL_add, nI_cl, zchk_n]
  exact x_gen ((m_when hS _ _).do hS) hC hR (by intro c hc g; simp only [List.mem_cons, List.mem_nil_iff, or_false] at hc; subst hc; rfl) (by decide) hk
theorem x_33 {L : Nat} {xs : Nat → Int32} {kk : zM → Option Unit} {a : Nat} (ha : a + 6 ≤ L) (hL : L < 2147483000) (hk : ∀ g, zII g → kk g = some ()) {g : zM} (hg : zII g) : fLc_33 L xs kk (nI a) g = some () := by
  obtain ⟨S, hS, hC, hR⟩ := hg
  unfold fLc_33 fL_soonest
  simp (disch := omega) only [nL_add, nI_cl, zchk_n]
  exact x_gen ((m_soonest hS _).do hS) hC hR (by intro c hc g; simp only [List.mem_cons, List.mem_nil_iff, or_false] at hc; subst hc; rfl) (by decide) hk
theorem x_34 {L : Nat} {xs : Nat → Int32} {kk : zM → Option Unit} {a : Nat} (ha : a + 6 ≤ L) (hL : L < 2147483000) (hk : ∀ g, zII g → kk g = some ()) {g : zM} (hg : zII g) : fLc_34 L xs kk (nI a) g = some () := by
  obtain ⟨S, hS, hC, hR⟩ := hg
  unfold fLc_34
  simp (disch := omega) only [nL_add, nI_cl, zchk_n]
  exact x_n hS (m_spies hS _) hC hR hk
theorem x_35 {L : Nat} {xs : Nat → Int32} {kk : zM → Option Unit} {a : Nat} (ha : a + 6 ≤ L) (hL : L < 2147483000) (hk : ∀ g, zII g → kk g = some ()) {g : zM} (hg : zII g) : fLc_35 L xs kk (nI a) g = some () := by
  obtain ⟨S, hS, hC, hR⟩ := hg
  unfold fLc_35 fL_guess
  simp (disch := omega) only [nL_add, nI_cl, zchk_n]
  exact x_gen ((m_guess hS _).do hS) hC hR (by intro c hc g; simp only [List.mem_cons, List.mem_nil_iff, or_false] at hc; subst hc; rfl) (by decide) hk
theorem x_36 {L : Nat} {xs : Nat → Int32} {kk : zM → Option Unit} {a : Nat} (ha : a + 6 ≤ L) (hL : L < 2147483000) (hk : ∀ g, zII g → kk g = some ()) {g : zM} (hg : zII g) : fLc_36 L xs kk (nI a) g = some () := by
  obtain ⟨S, hS, hC, hR⟩ := hg
  unfold fLc_36 fL_postage
  simp (disch := omega) only [nL_add, nI_cl, zchk_n]
  by_cases q : xs (a + 3) = 0
  · simp only [q, if_true]
    exact x_gen ((m_postage hS _ _ false).do hS) hC hR (by intro c hc g; simp only [List.mem_cons, List.mem_nil_iff, or_false] at hc; rcases hc with rfl | rfl <;> rfl) (by decide) hk
  · simp only [q, if_false]
    exact x_gen ((m_postage hS _ _ true).do hS) hC hR (by intro c hc g; simp only [List.mem_cons, List.mem_nil_iff, or_false] at hc; rcases hc with rfl | rfl <;> rfl) (by decide) hk
theorem x_37 {L : Nat} {xs : Nat → Int32} {kk : zM → Option Unit} {a : Nat} (ha : a + 6 ≤ L) (hL : L < 2147483000) (hk : ∀ g, zII g → kk g = some ()) {g : zM} (hg : zII g) : fLc_37 L xs kk (nI a) g = some () := by
  obtain ⟨S, hS, hC, hR⟩ := hg
  unfold fLc_37 fL_forks
  simp (disch := omega) only [nL_add, nI_cl, zchk_n]
  exact x_gen ((m_forks hS _ _).do hS) hC hR (by intro c hc g; simp only [List.mem_cons, List.mem_nil_iff, or_false] at hc; rcases hc with rfl | rfl <;> rfl) (by decide) hk
theorem x_38 {L : Nat} {xs : Nat → Int32} {kk : zM → Option Unit} {a : Nat} (ha : a + 6 ≤ L) (hL : L < 2147483000) (hk : ∀ g, zII g → kk g = some ()) {g : zM} (hg : zII g) : fLc_38 L xs kk (nI a) g = some () := by
  obtain ⟨S, hS, hC, hR⟩ := hg
  unfold fLc_38 fL_ripe
  simp (disch := omega) only [nL_add, nI_cl, zchk_n]
  by_cases q : xs (a + 2) = 0
  · simp only [q, if_true]
    exact x_gen ((m_ripe hS _ false).do hS) hC hR (by intro c hc g; simp only [List.mem_cons, List.mem_nil_iff, or_false] at hc; subst hc; rfl) (by decide) hk
  · simp only [q, if_false]
    exact x_gen ((m_ripe hS _ true).do hS) hC hR (by intro c hc g; simp only [List.mem_cons, List.mem_nil_iff, or_false] at hc; subst hc; rfl) (by decide) hk
theorem x_39 {L : Nat} {xs : Nat → Int32} {kk : zM → Option Unit} {a : Nat} (ha : a + 6 ≤ L) (hL : L < 2147483000) (hk : ∀ g, zII g → kk g = some ()) {g : zM} (hg : zII g) : fLc_39 L xs kk (nI a) g = some () := by
  obtain ⟨S, hS, hC, hR⟩ := hg
  unfold fLc_39 fL_has
  simp (disch := omega) only [nL_add, nI_cl, zchk_n]
  exact x_gen ((m_has hS _).do hS) hC hR (by intro c hc g; simp only [List.mem_cons, List.mem_nil_iff, or_false] at hc; subst hc; rfl) (by decide) hk
theorem x_40 {L : Nat} {xs : Nat → Int32} {kk : zM → Option Unit} {a : Nat} (ha : a + 6 ≤ L) (hL : L < 2147483000) (hk : ∀ g, zII g → kk g = some ()) {g : zM} (hg : zII g) : fLc_40 L xs kk (nI a) g = some () := by
  obtain ⟨S, hS, hC, hR⟩ := hg
  unfold fLc_40 fL_echo
  simp (disch := omega) only [nL_add, nI_cl, zchk_n]
  exact x_gen ((m_echo hS _).do hS) hC hR (by intro c hc g; simp only [List.mem_cons, List.mem_nil_iff, or_false] at hc; subst hc; rfl) (by decide) hk
theorem x_41 {L : Nat} {xs : Nat → Int32} {kk : zM → Option Unit} {a : Nat} (ha : a + 6 ≤ L) (hL : L < 2147483000) (hk : ∀ g, zII g → kk g = some ()) {g : zM} (hg : zII g) : fLc_41 L xs kk (nI a) g = some () := by
  obtain ⟨S, hS, hC, hR⟩ := hg
  unfold fLc_41 fL_common
  simp (disch := omega) only [nL_add, nI_cl, zchk_n]
  exact x_gen ((m_common hS _ _).do hS) hC hR (by intro c hc g; simp only [List.mem_cons, List.mem_nil_iff, or_false] at hc; rcases hc with rfl | rfl <;> rfl) (by decide) hk
theorem x_42 {L : Nat} {xs : Nat → Int32} {kk : zM → Option Unit} {a : Nat} (ha : a + 6 ≤ L) (hL : L < 2147483000) (hk : ∀ g, zII g → kk g = some ()) {g : zM} (hg : zII g) : fLc_42 L xs kk (nI a) g = some () := by
  obtain ⟨S, hS, hC, hR⟩ := hg
  unfold fLc_42 fL_author
  simp (disch := omega) only [nL_add, nI_cl, zchk_n]
  by_cases q : xs (a + 2) = 0
  · simp only [q, if_true]
    exact x_gen ((m_author hS _ false).do hS) hC hR (by intro c hc g; simp only [List.mem_cons, List.mem_nil_iff, or_false] at hc; subst hc; rfl) (by decide) hk
  · simp only [q, if_false]
    exact x_gen ((m_author hS _ true).do hS) hC hR (by intro c hc g; simp only [List.mem_cons, List.mem_nil_iff, or_false] at hc; subst hc; rfl) (by decide) hk
theorem x_43 {L : Nat} {xs : Nat → Int32} {kk : zM → Option Unit} {a : Nat} (ha : a + 6 ≤ L) (hL : L < 2147483000) (hk : ∀ g, zII g → kk g = some ()) {g : zM} (hg : zII g) : fLc_43 L xs kk (nI a) g = some () := by
  obtain ⟨S, hS, hC, hR⟩ := hg
  unfold fLc_43 fL_shelves
  simp (disch := omega) only [nL_add, nI_cl, zchk_n]
  by_cases q : xs (a + 3) = 0
  · simp only [q, if_true]
    exact x_gen ((m_shelves hS _ _ false).do hS) hC hR (by intro c hc g; simp only [List.mem_cons, List.mem_nil_iff, or_false] at hc; subst hc; rfl) (by decide) hk
  · simp only [q, if_false]
    exact x_gen ((m_shelves hS _ _ true).do hS) hC hR (by intro c hc g; simp only [List.mem_cons, List.mem_nil_iff, or_false] at hc; subst hc; rfl) (by decide) hk
theorem x_44 {L : Nat} {xs : Nat → Int32} {kk : zM → Option Unit} {a : Nat} (ha : a + 6 ≤ L) (hL : L < 2147483000) (hk : ∀ g, zII g → kk g = some ()) {g : zM} (hg : zII g) : fLc_44 L xs kk (nI a) g = some () := by
  obtain ⟨S, hS, hC, hR⟩ := hg
  unfold fLc_44 fL_tempers
  simp (disch := omega) only [nL_add, nI_cl, zchk_n]
  exact x_gen ((m_tempers hS _ _ _).do hS) hC hR (by intro c hc g; simp only [List.mem_cons, List.mem_nil_iff, or_false] at hc; rcases hc with rfl | rfl <;> rfl) (by decide) hk
theorem x_45 {L : Nat} {xs : Nat → Int32} {kk : zM → Option Unit} {a : Nat} (ha : a + 6 ≤ L) (hL : L < 2147483000) (hk : ∀ g, zII g → kk g = some ()) {g : zM} (hg : zII g) : fLc_45 L xs kk (nI a) g = some () := by
  obtain ⟨S, hS, hC, hR⟩ := hg
  unfold fLc_45 fL_trial
  simp (disch := omega) only [nL_add, nI_cl, zchk_n]
  exact x_gen ((m_trial hS _ _).do hS) hC hR (by intro c hc g; simp only [List.mem_cons, List.mem_nil_iff, or_false] at hc; rcases hc with rfl | rfl <;> rfl) (by decide) hk
theorem x_46 {L : Nat} {xs : Nat → Int32} {kk : zM → Option Unit} {a : Nat} (ha : a + 6 ≤ L) (hL : L < 2147483000) (hk : ∀ g, zII g → kk g = some ()) {g : zM} (hg : zII g) : fLc_46 L xs kk (nI a) g = some () := by
  obtain ⟨S, hS, hC, hR⟩ := hg
  unfold fLc_46 fL_span
  simp (disch := omega) only [nL_add, nI_cl, zchk_n]
  by_cases q : xs (a + 2) = 0
  · simp only [q, if_true]
    exact x_gen ((m_span hS _ 0).do hS) hC hR (by intro c hc g; simp only [List.mem_cons, List.mem_nil_iff, or_false] at hc; subst hc; rfl) (by decide) hk
  · simp only [q, if_false]
    exact x_gen ((m_span hS _ 1).do hS) hC hR (by intro c hc g; simp only [List.mem_cons, List.mem_nil_iff, or_false] at hc; subst hc; rfl) (by decide) hk
theorem x_47 {L : Nat} {xs : Nat → Int32} {kk : zM → Option Unit} {a : Nat} (ha : a + 6 ≤ L) (hL : L < 2147483000) (hk : ∀ g, zII g → kk g = some ()) {g : zM} (hg : zII g) : fLc_47 L xs kk (nI a) g = some () := by
  obtain ⟨S, hS, hC, hR⟩ := hg
  unfold fLc_47
  simp (disch := omega) only [nL_add, nI_cl, zchk_n]
  exact x_n hS (m_latest hS _) hC hR hk
theorem x_48 {L : Nat} {xs : Nat → Int32} {kk : zM → Option Unit} {a : Nat} (ha : a + 6 ≤ L) (hL : L < 2147483000) (hk : ∀ g, zII g → kk g = some ()) {g : zM} (hg : zII g) : fLc_48 L xs kk (nI a) g = some () := by
  obtain ⟨S, hS, hC, hR⟩ := hg
  unfold fLc_48
  simp (disch := omega) only [nL_add, nI_cl, zchk_n]
  exact x_n2 (m_seed hS _) hC hR hk
theorem x_49 {L : Nat} {xs : Nat → Int32} {kk : zM → Option Unit} {a : Nat} (ha : a + 6 ≤ L) (hL : L < 2147483000) (hk : ∀ g, zII g → kk g = some ()) {g : zM} (hg : zII g) : fLc_49 L xs kk (nI a) g = some () := by
  obtain ⟨S, hS, hC, hR⟩ := hg
  unfold fLc_49
  exact x_n2 (m_undo hS) hC hR hk
theorem x_50 {L : Nat} {xs : Nat → Int32} {kk : zM → Option Unit} {a : Nat} (ha : a + 6 ≤ L) (hL : L < 2147483000) (hk : ∀ g, zII g → kk g = some ()) {g : zM} (hg : zII g) : fLc_50 L xs kk (nI a) g = some () := by
  obtain ⟨S, hS, hC, hR⟩ := hg
  unfold fLc_50
  exact x_u (m_image hS) hC hR hk
theorem x_51 {L : Nat} {xs : Nat → Int32} {kk : zM → Option Unit} {a : Nat} (ha : a + 6 ≤ L) (hL : L < 2147483000) (hk : ∀ g, zII g → kk g = some ()) {g : zM} (hg : zII g) : fLc_51 L xs kk (nI a) g = some () := by
  obtain ⟨S, hS, hC, hR⟩ := hg
  unfold fLc_51
  exact x_n2 (m_back hS) hC hR hk
theorem x_52 {L : Nat} {xs : Nat → Int32} {kk : zM → Option Unit} {a : Nat} (ha : a + 6 ≤ L) (hL : L < 2147483000) (hk : ∀ g, zII g → kk g = some ()) {g : zM} (hg : zII g) : fLc_52 L xs kk (nI a) g = some () := by
  obtain ⟨S, hS, hC, hR⟩ := hg
  unfold fLc_52
  simp (disch := omega) only [nL_add, nI_cl, zchk_n]
  exact x_n hS (m_count hS _) hC hR hk
theorem x_if {c : Prop} [Decidable c] {a b : Option Unit} (h1 : a = some ()) (h2 : b = some ()) : (if c then a else b) = some () := by
  by_cases q : c
  · rw [if_pos q]; exact h1
  · rw [if_neg q]; exact h2
theorem nI_6 : ∀ n, n < 6 → nI n - 6 < nI 0 := by decide +kernel
/-- the whole loop, from what post and law do -/
theorem x_law {L : Nat} {xs : Nat → Int32} (hL : L < 2147483000) (hp : ∀ S, zSW S → zDo [2, 4] S fX11_post fX12_post) (hl : ∀ S, zSW S → zDo [2] S fX11_law fX12_law) : ∀ n i g, 6 * i ≤ L → L < 6 * (i + n) → zII g → fLAW L xs n (nI (6 * i)) g = some () := by
  intro n
  induction n with
  | zero => intro i g h1 h2 _; omega
  | succ n ih =>
    intro i g h1 h2 hg
    rw [fLAW]
    by_cases q : L < 6 * i + 6
    · have : (Int32.ofNat L - 6) < nI (6 * i) := by
        show nI L - 6 < nI (6 * i)
        by_cases q2 : L < 6
        · obtain rfl : i = 0 := by omega
          exact nI_6 L q2
        · rw [nL_sub (by show 6 ≤ L; omega), nI_ltI (by show L - 6 < _; omega) (by omega)]
          show L - 6 < 6 * i
          omega
      rw [if_pos this]
    · have : ¬ (Int32.ofNat L - 6) < nI (6 * i) := by
        show ¬ nI L - 6 < nI (6 * i)
        rw [nL_sub (by show 6 ≤ L; omega), nI_ltI (by show L - 6 < _; omega) (by omega)]
        show ¬ L - 6 < 6 * i
        omega
      rw [if_neg this, zchk_n (by omega) (by omega)]
      have ha : 6 * i + 6 ≤ L := by omega
      have hk : ∀ g, zII g → (fun g => fLAW L xs n (nI (6 * i) + 6) g) g = some () := fun g hg => by
        show fLAW L xs n (nI (6 * i) + 6) g = some ()
        rw [nL_add]
        exact ih (i + 1) g (by omega) (by omega) hg
      refine x_if (x_0 ha hL hk hg) ?_
      refine x_if (x_1 ha hL hk hg) ?_
      refine x_if (x_2 hp ha hL hk hg) ?_
      refine x_if (x_3 hl ha hL hk hg) ?_
      refine x_if (x_4 ha hL hk hg) ?_
      refine x_if (x_5 ha hL hk hg) ?_
      refine x_if (x_6 ha hL hk hg) ?_
      refine x_if (x_7 ha hL hk hg) ?_
      refine x_if (x_8 ha hL hk hg) ?_
      refine x_if (x_9 ha hL hk hg) ?_
      refine x_if (x_10 ha hL hk hg) ?_
      refine x_if (x_11 ha hL hk hg) ?_
      refine x_if (x_12 ha hL hk hg) ?_
      refine x_if (x_13 ha hL hk hg) ?_
      refine x_if (x_14 ha hL hk hg) ?_
      refine x_if (x_15 ha hL hk hg) ?_
      refine x_if (x_16 ha hL hk hg) ?_
      refine x_if (x_17 ha hL hk hg) ?_
      refine x_if (x_18 ha hL hk hg) ?_
      refine x_if (x_19 ha hL hk hg) ?_
      refine x_if (x_20 ha hL hk hg) ?_
      refine x_if (x_21 ha hL hk hg) ?_
      refine x_if (x_22 ha hL hk hg) ?_
      refine x_if (x_23 ha hL hk hg) ?_
      refine x_if (x_24 ha hL hk hg) ?_
      refine x_if (x_25 ha hL hk hg) ?_
      refine x_if (x_26 ha hL hk hg) ?_
      refine x_if (x_27 ha hL hk hg) ?_
      refine x_if (x_28 ha hL hk hg) ?_
      refine x_if (x_29 ha hL hk hg) ?_
      refine x_if (x_30 ha hL hk hg) ?_
      refine x_if (x_31 ha hL hk hg) ?_
      refine x_if (x_32 ha hL hk hg) ?_
      refine x_if (x_33 ha hL hk hg) ?_
      refine x_if (x_34 ha hL hk hg) ?_
      refine x_if (x_35 ha hL hk hg) ?_
      refine x_if (x_36 ha hL hk hg) ?_
      refine x_if (x_37 ha hL hk hg) ?_
      refine x_if (x_38 ha hL hk hg) ?_
      refine x_if (x_39 ha hL hk hg) ?_
      refine x_if (x_40 ha hL hk hg) ?_
      refine x_if (x_41 ha hL hk hg) ?_
      refine x_if (x_42 ha hL hk hg) ?_
      refine x_if (x_43 ha hL hk hg) ?_
      refine x_if (x_44 ha hL hk hg) ?_
      refine x_if (x_45 ha hL hk hg) ?_
      refine x_if (x_46 ha hL hk hg) ?_
      refine x_if (x_47 ha hL hk hg) ?_
      refine x_if (x_48 ha hL hk hg) ?_
      refine x_if (x_49 ha hL hk hg) ?_
      refine x_if (x_50 ha hL hk hg) ?_
      refine x_if (x_51 ha hL hk hg) ?_
      refine x_if (x_52 ha hL hk hg) ?_
      exact hk g hg
