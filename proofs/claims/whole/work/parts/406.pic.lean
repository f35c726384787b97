def zg0 : zM := fun id k => if id = 36 ∨ id = 73 ∨ id = 430 then 3 else if id = 494 then (if k = 7 then 1 else if 8 ≤ k ∧ k < 20 then 3 else 0) else if zK id = 8 then (if k = 7 then -1 else 0) else if zK id = 7 then (if k = 2 then -1 else 0) else if zK id = 0 then (if k = 3 then 1 else 0) else if zK id = 10 then (if k = 2 then -1 else 0) else if zK id = 11 then (if k = 14 then -1 else 0) else 0
def zOn (E : zE) (o : Nat) (ws : va_W) : Prop := ∀ (i : Nat) (q : Nat × va_E), ws[i]? = some q → q = (E.1 + (o + i), zcell E (zK (o + i)) (o + i) (zg0 (o + i)))
theorem zOn_nil {E : zE} {o : Nat} : zOn E o [] := fun i q h => by simp at h
theorem zOn_cons {E : zE} {o : Nat} {x : Nat × va_E} {r : va_W} (hx : x = (E.1 + o, zcell E (zK o) o (zg0 o))) (h : zOn E (o + 1) r) : zOn E o (x :: r) := fun i q hi => by
  cases i with
  | zero => simp only [List.getElem?_cons_zero, Option.some.injEq] at hi; subst hi; exact hx
  | succ i => rw [List.getElem?_cons_succ] at hi; rw [h i q hi, show o + 1 + i = o + (i + 1) from by omega]
theorem zOn_app {E : zE} {o m : Nat} {a r : va_W} (ha : zOn E o a) (hm : a.length = m) (h : zOn E (o + m) r) : zOn E o (a ++ r) := fun i q hi => by
  rcases Nat.lt_or_ge i a.length with hl | hl
  · rw [List.getElem?_append_left hl] at hi; exact ha i q hi
  · rw [List.getElem?_append_right hl] at hi
    rw [h _ q hi, show o + m + (i - a.length) = o + i from by omega]
set_option maxRecDepth 100000 in
set_option maxHeartbeats 4000000 in
theorem on_Mail_5 (E : zE) : zOn E 5 (T_Mail E 5) := by unfold T_Mail; exact (zOn_cons rfl (zOn_cons rfl (zOn_cons rfl zOn_nil)))
set_option maxRecDepth 100000 in
set_option maxHeartbeats 4000000 in
theorem on_Mail_8 (E : zE) : zOn E 8 (T_Mail E 8) := by unfold T_Mail; exact (zOn_cons rfl (zOn_cons rfl (zOn_cons rfl zOn_nil)))
set_option maxRecDepth 100000 in
set_option maxHeartbeats 4000000 in
theorem on_Mail_11 (E : zE) : zOn E 11 (T_Mail E 11) := by unfold T_Mail; exact (zOn_cons rfl (zOn_cons rfl (zOn_cons rfl zOn_nil)))
set_option maxRecDepth 100000 in
set_option maxHeartbeats 4000000 in
theorem on_Mail_14 (E : zE) : zOn E 14 (T_Mail E 14) := by unfold T_Mail; exact (zOn_cons rfl (zOn_cons rfl (zOn_cons rfl zOn_nil)))
set_option maxRecDepth 100000 in
set_option maxHeartbeats 4000000 in
theorem on_Mail_17 (E : zE) : zOn E 17 (T_Mail E 17) := by unfold T_Mail; exact (zOn_cons rfl (zOn_cons rfl (zOn_cons rfl zOn_nil)))
set_option maxRecDepth 100000 in
set_option maxHeartbeats 4000000 in
theorem on_Mail_20 (E : zE) : zOn E 20 (T_Mail E 20) := by unfold T_Mail; exact (zOn_cons rfl (zOn_cons rfl (zOn_cons rfl zOn_nil)))
set_option maxRecDepth 100000 in
set_option maxHeartbeats 4000000 in
theorem on_Mail_23 (E : zE) : zOn E 23 (T_Mail E 23) := by unfold T_Mail; exact (zOn_cons rfl (zOn_cons rfl (zOn_cons rfl zOn_nil)))
set_option maxRecDepth 100000 in
set_option maxHeartbeats 4000000 in
theorem on_Mail_26 (E : zE) : zOn E 26 (T_Mail E 26) := by unfold T_Mail; exact (zOn_cons rfl (zOn_cons rfl (zOn_cons rfl zOn_nil)))
set_option maxRecDepth 100000 in
set_option maxHeartbeats 4000000 in
theorem on_Bag_3 (E : zE) : zOn E 3 (T_Bag E 3) := by unfold T_Bag; exact (zOn_cons rfl (zOn_cons rfl (zOn_app (on_Mail_5 E) (len_Mail E _) (zOn_app (on_Mail_8 E) (len_Mail E _) (zOn_app (on_Mail_11 E) (len_Mail E _) (zOn_app (on_Mail_14 E) (len_Mail E _) (zOn_app (on_Mail_17 E) (len_Mail E _) (zOn_app (on_Mail_20 E) (len_Mail E _) (zOn_app (on_Mail_23 E) (len_Mail E _) (zOn_app (on_Mail_26 E) (len_Mail E _) zOn_nil))))))))))
set_option maxRecDepth 100000 in
set_option maxHeartbeats 4000000 in
theorem on_Law_29 (E : zE) : zOn E 29 (T_Law E 29) := by unfold T_Law; exact (zOn_cons rfl (zOn_cons rfl (zOn_cons rfl (zOn_cons rfl (zOn_cons rfl (zOn_cons rfl (zOn_cons rfl zOn_nil)))))))
set_option maxRecDepth 100000 in
set_option maxHeartbeats 4000000 in
theorem on_World_2 (E : zE) : zOn E 2 (T_World E 2) := by unfold T_World; exact (zOn_cons rfl (zOn_app (on_Bag_3 E) (len_Bag E _) (zOn_app (on_Law_29 E) (len_Law E _) (zOn_cons rfl (zOn_cons rfl (zOn_cons rfl zOn_nil))))))
set_option maxRecDepth 100000 in
set_option maxHeartbeats 4000000 in
theorem on_Mail_42 (E : zE) : zOn E 42 (T_Mail E 42) := by unfold T_Mail; exact (zOn_cons rfl (zOn_cons rfl (zOn_cons rfl zOn_nil)))
set_option maxRecDepth 100000 in
set_option maxHeartbeats 4000000 in
theorem on_Mail_45 (E : zE) : zOn E 45 (T_Mail E 45) := by unfold T_Mail; exact (zOn_cons rfl (zOn_cons rfl (zOn_cons rfl zOn_nil)))
set_option maxRecDepth 100000 in
set_option maxHeartbeats 4000000 in
theorem on_Mail_48 (E : zE) : zOn E 48 (T_Mail E 48) := by unfold T_Mail; exact (zOn_cons rfl (zOn_cons rfl (zOn_cons rfl zOn_nil)))
set_option maxRecDepth 100000 in
set_option maxHeartbeats 4000000 in
theorem on_Mail_51 (E : zE) : zOn E 51 (T_Mail E 51) := by unfold T_Mail; exact (zOn_cons rfl (zOn_cons rfl (zOn_cons rfl zOn_nil)))
set_option maxRecDepth 100000 in
set_option maxHeartbeats 4000000 in
theorem on_Mail_54 (E : zE) : zOn E 54 (T_Mail E 54) := by unfold T_Mail; exact (zOn_cons rfl (zOn_cons rfl (zOn_cons rfl zOn_nil)))
set_option maxRecDepth 100000 in
set_option maxHeartbeats 4000000 in
theorem on_Mail_57 (E : zE) : zOn E 57 (T_Mail E 57) := by unfold T_Mail; exact (zOn_cons rfl (zOn_cons rfl (zOn_cons rfl zOn_nil)))
set_option maxRecDepth 100000 in
set_option maxHeartbeats 4000000 in
theorem on_Mail_60 (E : zE) : zOn E 60 (T_Mail E 60) := by unfold T_Mail; exact (zOn_cons rfl (zOn_cons rfl (zOn_cons rfl zOn_nil)))
set_option maxRecDepth 100000 in
set_option maxHeartbeats 4000000 in
theorem on_Mail_63 (E : zE) : zOn E 63 (T_Mail E 63) := by unfold T_Mail; exact (zOn_cons rfl (zOn_cons rfl (zOn_cons rfl zOn_nil)))
set_option maxRecDepth 100000 in
set_option maxHeartbeats 4000000 in
theorem on_Bag_40 (E : zE) : zOn E 40 (T_Bag E 40) := by unfold T_Bag; exact (zOn_cons rfl (zOn_cons rfl (zOn_app (on_Mail_42 E) (len_Mail E _) (zOn_app (on_Mail_45 E) (len_Mail E _) (zOn_app (on_Mail_48 E) (len_Mail E _) (zOn_app (on_Mail_51 E) (len_Mail E _) (zOn_app (on_Mail_54 E) (len_Mail E _) (zOn_app (on_Mail_57 E) (len_Mail E _) (zOn_app (on_Mail_60 E) (len_Mail E _) (zOn_app (on_Mail_63 E) (len_Mail E _) zOn_nil))))))))))
set_option maxRecDepth 100000 in
set_option maxHeartbeats 4000000 in
theorem on_Law_66 (E : zE) : zOn E 66 (T_Law E 66) := by unfold T_Law; exact (zOn_cons rfl (zOn_cons rfl (zOn_cons rfl (zOn_cons rfl (zOn_cons rfl (zOn_cons rfl (zOn_cons rfl zOn_nil)))))))
set_option maxRecDepth 100000 in
set_option maxHeartbeats 4000000 in
theorem on_World_39 (E : zE) : zOn E 39 (T_World E 39) := by unfold T_World; exact (zOn_cons rfl (zOn_app (on_Bag_40 E) (len_Bag E _) (zOn_app (on_Law_66 E) (len_Law E _) (zOn_cons rfl (zOn_cons rfl (zOn_cons rfl zOn_nil))))))
set_option maxRecDepth 100000 in
set_option maxHeartbeats 4000000 in
theorem on_Mail_80 (E : zE) : zOn E 80 (T_Mail E 80) := by unfold T_Mail; exact (zOn_cons rfl (zOn_cons rfl (zOn_cons rfl zOn_nil)))
set_option maxRecDepth 100000 in
set_option maxHeartbeats 4000000 in
theorem on_Mail_83 (E : zE) : zOn E 83 (T_Mail E 83) := by unfold T_Mail; exact (zOn_cons rfl (zOn_cons rfl (zOn_cons rfl zOn_nil)))
set_option maxRecDepth 100000 in
set_option maxHeartbeats 4000000 in
theorem on_Mail_86 (E : zE) : zOn E 86 (T_Mail E 86) := by unfold T_Mail; exact (zOn_cons rfl (zOn_cons rfl (zOn_cons rfl zOn_nil)))
set_option maxRecDepth 100000 in
set_option maxHeartbeats 4000000 in
theorem on_Mail_89 (E : zE) : zOn E 89 (T_Mail E 89) := by unfold T_Mail; exact (zOn_cons rfl (zOn_cons rfl (zOn_cons rfl zOn_nil)))
set_option maxRecDepth 100000 in
set_option maxHeartbeats 4000000 in
theorem on_Mail_92 (E : zE) : zOn E 92 (T_Mail E 92) := by unfold T_Mail; exact (zOn_cons rfl (zOn_cons rfl (zOn_cons rfl zOn_nil)))
set_option maxRecDepth 100000 in
set_option maxHeartbeats 4000000 in
theorem on_Mail_95 (E : zE) : zOn E 95 (T_Mail E 95) := by unfold T_Mail; exact (zOn_cons rfl (zOn_cons rfl (zOn_cons rfl zOn_nil)))
set_option maxRecDepth 100000 in
set_option maxHeartbeats 4000000 in
theorem on_Mail_98 (E : zE) : zOn E 98 (T_Mail E 98) := by unfold T_Mail; exact (zOn_cons rfl (zOn_cons rfl (zOn_cons rfl zOn_nil)))
set_option maxRecDepth 100000 in
set_option maxHeartbeats 4000000 in
theorem on_Mail_101 (E : zE) : zOn E 101 (T_Mail E 101) := by unfold T_Mail; exact (zOn_cons rfl (zOn_cons rfl (zOn_cons rfl zOn_nil)))
set_option maxRecDepth 100000 in
set_option maxHeartbeats 4000000 in
theorem on_Bag_78 (E : zE) : zOn E 78 (T_Bag E 78) := by unfold T_Bag; exact (zOn_cons rfl (zOn_cons rfl (zOn_app (on_Mail_80 E) (len_Mail E _) (zOn_app (on_Mail_83 E) (len_Mail E _) (zOn_app (on_Mail_86 E) (len_Mail E _) (zOn_app (on_Mail_89 E) (len_Mail E _) (zOn_app (on_Mail_92 E) (len_Mail E _) (zOn_app (on_Mail_95 E) (len_Mail E _) (zOn_app (on_Mail_98 E) (len_Mail E _) (zOn_app (on_Mail_101 E) (len_Mail E _) zOn_nil))))))))))
set_option maxRecDepth 100000 in
set_option maxHeartbeats 4000000 in
theorem on_Mail_106 (E : zE) : zOn E 106 (T_Mail E 106) := by unfold T_Mail; exact (zOn_cons rfl (zOn_cons rfl (zOn_cons rfl zOn_nil)))
set_option maxRecDepth 100000 in
set_option maxHeartbeats 4000000 in
theorem on_Mail_109 (E : zE) : zOn E 109 (T_Mail E 109) := by unfold T_Mail; exact (zOn_cons rfl (zOn_cons rfl (zOn_cons rfl zOn_nil)))
set_option maxRecDepth 100000 in
set_option maxHeartbeats 4000000 in
theorem on_Mail_112 (E : zE) : zOn E 112 (T_Mail E 112) := by unfold T_Mail; exact (zOn_cons rfl (zOn_cons rfl (zOn_cons rfl zOn_nil)))
set_option maxRecDepth 100000 in
set_option maxHeartbeats 4000000 in
theorem on_Mail_115 (E : zE) : zOn E 115 (T_Mail E 115) := by unfold T_Mail; exact (zOn_cons rfl (zOn_cons rfl (zOn_cons rfl zOn_nil)))
set_option maxRecDepth 100000 in
set_option maxHeartbeats 4000000 in
theorem on_Mail_118 (E : zE) : zOn E 118 (T_Mail E 118) := by unfold T_Mail; exact (zOn_cons rfl (zOn_cons rfl (zOn_cons rfl zOn_nil)))
set_option maxRecDepth 100000 in
set_option maxHeartbeats 4000000 in
theorem on_Mail_121 (E : zE) : zOn E 121 (T_Mail E 121) := by unfold T_Mail; exact (zOn_cons rfl (zOn_cons rfl (zOn_cons rfl zOn_nil)))
set_option maxRecDepth 100000 in
set_option maxHeartbeats 4000000 in
theorem on_Mail_124 (E : zE) : zOn E 124 (T_Mail E 124) := by unfold T_Mail; exact (zOn_cons rfl (zOn_cons rfl (zOn_cons rfl zOn_nil)))
set_option maxRecDepth 100000 in
set_option maxHeartbeats 4000000 in
theorem on_Mail_127 (E : zE) : zOn E 127 (T_Mail E 127) := by unfold T_Mail; exact (zOn_cons rfl (zOn_cons rfl (zOn_cons rfl zOn_nil)))
set_option maxRecDepth 100000 in
set_option maxHeartbeats 4000000 in
theorem on_Bag_104 (E : zE) : zOn E 104 (T_Bag E 104) := by unfold T_Bag; exact (zOn_cons rfl (zOn_cons rfl (zOn_app (on_Mail_106 E) (len_Mail E _) (zOn_app (on_Mail_109 E) (len_Mail E _) (zOn_app (on_Mail_112 E) (len_Mail E _) (zOn_app (on_Mail_115 E) (len_Mail E _) (zOn_app (on_Mail_118 E) (len_Mail E _) (zOn_app (on_Mail_121 E) (len_Mail E _) (zOn_app (on_Mail_124 E) (len_Mail E _) (zOn_app (on_Mail_127 E) (len_Mail E _) zOn_nil))))))))))
set_option maxRecDepth 100000 in
set_option maxHeartbeats 4000000 in
theorem on_Mail_132 (E : zE) : zOn E 132 (T_Mail E 132) := by unfold T_Mail; exact (zOn_cons rfl (zOn_cons rfl (zOn_cons rfl zOn_nil)))
set_option maxRecDepth 100000 in
set_option maxHeartbeats 4000000 in
theorem on_Mail_135 (E : zE) : zOn E 135 (T_Mail E 135) := by unfold T_Mail; exact (zOn_cons rfl (zOn_cons rfl (zOn_cons rfl zOn_nil)))
set_option maxRecDepth 100000 in
set_option maxHeartbeats 4000000 in
theorem on_Mail_138 (E : zE) : zOn E 138 (T_Mail E 138) := by unfold T_Mail; exact (zOn_cons rfl (zOn_cons rfl (zOn_cons rfl zOn_nil)))
set_option maxRecDepth 100000 in
set_option maxHeartbeats 4000000 in
theorem on_Mail_141 (E : zE) : zOn E 141 (T_Mail E 141) := by unfold T_Mail; exact (zOn_cons rfl (zOn_cons rfl (zOn_cons rfl zOn_nil)))
set_option maxRecDepth 100000 in
set_option maxHeartbeats 4000000 in
theorem on_Mail_144 (E : zE) : zOn E 144 (T_Mail E 144) := by unfold T_Mail; exact (zOn_cons rfl (zOn_cons rfl (zOn_cons rfl zOn_nil)))
set_option maxRecDepth 100000 in
set_option maxHeartbeats 4000000 in
theorem on_Mail_147 (E : zE) : zOn E 147 (T_Mail E 147) := by unfold T_Mail; exact (zOn_cons rfl (zOn_cons rfl (zOn_cons rfl zOn_nil)))
set_option maxRecDepth 100000 in
set_option maxHeartbeats 4000000 in
theorem on_Mail_150 (E : zE) : zOn E 150 (T_Mail E 150) := by unfold T_Mail; exact (zOn_cons rfl (zOn_cons rfl (zOn_cons rfl zOn_nil)))
set_option maxRecDepth 100000 in
set_option maxHeartbeats 4000000 in
theorem on_Mail_153 (E : zE) : zOn E 153 (T_Mail E 153) := by unfold T_Mail; exact (zOn_cons rfl (zOn_cons rfl (zOn_cons rfl zOn_nil)))
set_option maxRecDepth 100000 in
set_option maxHeartbeats 4000000 in
theorem on_Bag_130 (E : zE) : zOn E 130 (T_Bag E 130) := by unfold T_Bag; exact (zOn_cons rfl (zOn_cons rfl (zOn_app (on_Mail_132 E) (len_Mail E _) (zOn_app (on_Mail_135 E) (len_Mail E _) (zOn_app (on_Mail_138 E) (len_Mail E _) (zOn_app (on_Mail_141 E) (len_Mail E _) (zOn_app (on_Mail_144 E) (len_Mail E _) (zOn_app (on_Mail_147 E) (len_Mail E _) (zOn_app (on_Mail_150 E) (len_Mail E _) (zOn_app (on_Mail_153 E) (len_Mail E _) zOn_nil))))))))))
set_option maxRecDepth 100000 in
set_option maxHeartbeats 4000000 in
theorem on_Mail_158 (E : zE) : zOn E 158 (T_Mail E 158) := by unfold T_Mail; exact (zOn_cons rfl (zOn_cons rfl (zOn_cons rfl zOn_nil)))
set_option maxRecDepth 100000 in
set_option maxHeartbeats 4000000 in
theorem on_Mail_161 (E : zE) : zOn E 161 (T_Mail E 161) := by unfold T_Mail; exact (zOn_cons rfl (zOn_cons rfl (zOn_cons rfl zOn_nil)))
set_option maxRecDepth 100000 in
set_option maxHeartbeats 4000000 in
theorem on_Mail_164 (E : zE) : zOn E 164 (T_Mail E 164) := by unfold T_Mail; exact (zOn_cons rfl (zOn_cons rfl (zOn_cons rfl zOn_nil)))
set_option maxRecDepth 100000 in
set_option maxHeartbeats 4000000 in
theorem on_Mail_167 (E : zE) : zOn E 167 (T_Mail E 167) := by unfold T_Mail; exact (zOn_cons rfl (zOn_cons rfl (zOn_cons rfl zOn_nil)))
set_option maxRecDepth 100000 in
set_option maxHeartbeats 4000000 in
theorem on_Mail_170 (E : zE) : zOn E 170 (T_Mail E 170) := by unfold T_Mail; exact (zOn_cons rfl (zOn_cons rfl (zOn_cons rfl zOn_nil)))
set_option maxRecDepth 100000 in
set_option maxHeartbeats 4000000 in
theorem on_Mail_173 (E : zE) : zOn E 173 (T_Mail E 173) := by unfold T_Mail; exact (zOn_cons rfl (zOn_cons rfl (zOn_cons rfl zOn_nil)))
set_option maxRecDepth 100000 in
set_option maxHeartbeats 4000000 in
theorem on_Mail_176 (E : zE) : zOn E 176 (T_Mail E 176) := by unfold T_Mail; exact (zOn_cons rfl (zOn_cons rfl (zOn_cons rfl zOn_nil)))
set_option maxRecDepth 100000 in
set_option maxHeartbeats 4000000 in
theorem on_Mail_179 (E : zE) : zOn E 179 (T_Mail E 179) := by unfold T_Mail; exact (zOn_cons rfl (zOn_cons rfl (zOn_cons rfl zOn_nil)))
set_option maxRecDepth 100000 in
set_option maxHeartbeats 4000000 in
theorem on_Bag_156 (E : zE) : zOn E 156 (T_Bag E 156) := by unfold T_Bag; exact (zOn_cons rfl (zOn_cons rfl (zOn_app (on_Mail_158 E) (len_Mail E _) (zOn_app (on_Mail_161 E) (len_Mail E _) (zOn_app (on_Mail_164 E) (len_Mail E _) (zOn_app (on_Mail_167 E) (len_Mail E _) (zOn_app (on_Mail_170 E) (len_Mail E _) (zOn_app (on_Mail_173 E) (len_Mail E _) (zOn_app (on_Mail_176 E) (len_Mail E _) (zOn_app (on_Mail_179 E) (len_Mail E _) zOn_nil))))))))))
set_option maxRecDepth 100000 in
set_option maxHeartbeats 4000000 in
theorem on_Mail_184 (E : zE) : zOn E 184 (T_Mail E 184) := by unfold T_Mail; exact (zOn_cons rfl (zOn_cons rfl (zOn_cons rfl zOn_nil)))
set_option maxRecDepth 100000 in
set_option maxHeartbeats 4000000 in
theorem on_Mail_187 (E : zE) : zOn E 187 (T_Mail E 187) := by unfold T_Mail; exact (zOn_cons rfl (zOn_cons rfl (zOn_cons rfl zOn_nil)))
set_option maxRecDepth 100000 in
set_option maxHeartbeats 4000000 in
theorem on_Mail_190 (E : zE) : zOn E 190 (T_Mail E 190) := by unfold T_Mail; exact (zOn_cons rfl (zOn_cons rfl (zOn_cons rfl zOn_nil)))
set_option maxRecDepth 100000 in
set_option maxHeartbeats 4000000 in
theorem on_Mail_193 (E : zE) : zOn E 193 (T_Mail E 193) := by unfold T_Mail; exact (zOn_cons rfl (zOn_cons rfl (zOn_cons rfl zOn_nil)))
set_option maxRecDepth 100000 in
set_option maxHeartbeats 4000000 in
theorem on_Mail_196 (E : zE) : zOn E 196 (T_Mail E 196) := by unfold T_Mail; exact (zOn_cons rfl (zOn_cons rfl (zOn_cons rfl zOn_nil)))
set_option maxRecDepth 100000 in
set_option maxHeartbeats 4000000 in
theorem on_Mail_199 (E : zE) : zOn E 199 (T_Mail E 199) := by unfold T_Mail; exact (zOn_cons rfl (zOn_cons rfl (zOn_cons rfl zOn_nil)))
set_option maxRecDepth 100000 in
set_option maxHeartbeats 4000000 in
theorem on_Mail_202 (E : zE) : zOn E 202 (T_Mail E 202) := by unfold T_Mail; exact (zOn_cons rfl (zOn_cons rfl (zOn_cons rfl zOn_nil)))
set_option maxRecDepth 100000 in
set_option maxHeartbeats 4000000 in
theorem on_Mail_205 (E : zE) : zOn E 205 (T_Mail E 205) := by unfold T_Mail; exact (zOn_cons rfl (zOn_cons rfl (zOn_cons rfl zOn_nil)))
set_option maxRecDepth 100000 in
set_option maxHeartbeats 4000000 in
theorem on_Bag_182 (E : zE) : zOn E 182 (T_Bag E 182) := by unfold T_Bag; exact (zOn_cons rfl (zOn_cons rfl (zOn_app (on_Mail_184 E) (len_Mail E _) (zOn_app (on_Mail_187 E) (len_Mail E _) (zOn_app (on_Mail_190 E) (len_Mail E _) (zOn_app (on_Mail_193 E) (len_Mail E _) (zOn_app (on_Mail_196 E) (len_Mail E _) (zOn_app (on_Mail_199 E) (len_Mail E _) (zOn_app (on_Mail_202 E) (len_Mail E _) (zOn_app (on_Mail_205 E) (len_Mail E _) zOn_nil))))))))))
set_option maxRecDepth 100000 in
set_option maxHeartbeats 4000000 in
theorem on_Mail_210 (E : zE) : zOn E 210 (T_Mail E 210) := by unfold T_Mail; exact (zOn_cons rfl (zOn_cons rfl (zOn_cons rfl zOn_nil)))
set_option maxRecDepth 100000 in
set_option maxHeartbeats 4000000 in
theorem on_Mail_213 (E : zE) : zOn E 213 (T_Mail E 213) := by unfold T_Mail; exact (zOn_cons rfl (zOn_cons rfl (zOn_cons rfl zOn_nil)))
set_option maxRecDepth 100000 in
set_option maxHeartbeats 4000000 in
theorem on_Mail_216 (E : zE) : zOn E 216 (T_Mail E 216) := by unfold T_Mail; exact (zOn_cons rfl (zOn_cons rfl (zOn_cons rfl zOn_nil)))
set_option maxRecDepth 100000 in
set_option maxHeartbeats 4000000 in
theorem on_Mail_219 (E : zE) : zOn E 219 (T_Mail E 219) := by unfold T_Mail; exact (zOn_cons rfl (zOn_cons rfl (zOn_cons rfl zOn_nil)))
set_option maxRecDepth 100000 in
set_option maxHeartbeats 4000000 in
theorem on_Mail_222 (E : zE) : zOn E 222 (T_Mail E 222) := by unfold T_Mail; exact (zOn_cons rfl (zOn_cons rfl (zOn_cons rfl zOn_nil)))
set_option maxRecDepth 100000 in
set_option maxHeartbeats 4000000 in
theorem on_Mail_225 (E : zE) : zOn E 225 (T_Mail E 225) := by unfold T_Mail; exact (zOn_cons rfl (zOn_cons rfl (zOn_cons rfl zOn_nil)))
set_option maxRecDepth 100000 in
set_option maxHeartbeats 4000000 in
theorem on_Mail_228 (E : zE) : zOn E 228 (T_Mail E 228) := by unfold T_Mail; exact (zOn_cons rfl (zOn_cons rfl (zOn_cons rfl zOn_nil)))
set_option maxRecDepth 100000 in
set_option maxHeartbeats 4000000 in
theorem on_Mail_231 (E : zE) : zOn E 231 (T_Mail E 231) := by unfold T_Mail; exact (zOn_cons rfl (zOn_cons rfl (zOn_cons rfl zOn_nil)))
set_option maxRecDepth 100000 in
set_option maxHeartbeats 4000000 in
theorem on_Bag_208 (E : zE) : zOn E 208 (T_Bag E 208) := by unfold T_Bag; exact (zOn_cons rfl (zOn_cons rfl (zOn_app (on_Mail_210 E) (len_Mail E _) (zOn_app (on_Mail_213 E) (len_Mail E _) (zOn_app (on_Mail_216 E) (len_Mail E _) (zOn_app (on_Mail_219 E) (len_Mail E _) (zOn_app (on_Mail_222 E) (len_Mail E _) (zOn_app (on_Mail_225 E) (len_Mail E _) (zOn_app (on_Mail_228 E) (len_Mail E _) (zOn_app (on_Mail_231 E) (len_Mail E _) zOn_nil))))))))))
set_option maxRecDepth 100000 in
set_option maxHeartbeats 4000000 in
theorem on_Mail_236 (E : zE) : zOn E 236 (T_Mail E 236) := by unfold T_Mail; exact (zOn_cons rfl (zOn_cons rfl (zOn_cons rfl zOn_nil)))
set_option maxRecDepth 100000 in
set_option maxHeartbeats 4000000 in
theorem on_Mail_239 (E : zE) : zOn E 239 (T_Mail E 239) := by unfold T_Mail; exact (zOn_cons rfl (zOn_cons rfl (zOn_cons rfl zOn_nil)))
set_option maxRecDepth 100000 in
set_option maxHeartbeats 4000000 in
theorem on_Mail_242 (E : zE) : zOn E 242 (T_Mail E 242) := by unfold T_Mail; exact (zOn_cons rfl (zOn_cons rfl (zOn_cons rfl zOn_nil)))
set_option maxRecDepth 100000 in
set_option maxHeartbeats 4000000 in
theorem on_Mail_245 (E : zE) : zOn E 245 (T_Mail E 245) := by unfold T_Mail; exact (zOn_cons rfl (zOn_cons rfl (zOn_cons rfl zOn_nil)))
set_option maxRecDepth 100000 in
set_option maxHeartbeats 4000000 in
theorem on_Mail_248 (E : zE) : zOn E 248 (T_Mail E 248) := by unfold T_Mail; exact (zOn_cons rfl (zOn_cons rfl (zOn_cons rfl zOn_nil)))
set_option maxRecDepth 100000 in
set_option maxHeartbeats 4000000 in
theorem on_Mail_251 (E : zE) : zOn E 251 (T_Mail E 251) := by unfold T_Mail; exact (zOn_cons rfl (zOn_cons rfl (zOn_cons rfl zOn_nil)))
set_option maxRecDepth 100000 in
set_option maxHeartbeats 4000000 in
theorem on_Mail_254 (E : zE) : zOn E 254 (T_Mail E 254) := by unfold T_Mail; exact (zOn_cons rfl (zOn_cons rfl (zOn_cons rfl zOn_nil)))
set_option maxRecDepth 100000 in
set_option maxHeartbeats 4000000 in
theorem on_Mail_257 (E : zE) : zOn E 257 (T_Mail E 257) := by unfold T_Mail; exact (zOn_cons rfl (zOn_cons rfl (zOn_cons rfl zOn_nil)))
set_option maxRecDepth 100000 in
set_option maxHeartbeats 4000000 in
theorem on_Bag_234 (E : zE) : zOn E 234 (T_Bag E 234) := by unfold T_Bag; exact (zOn_cons rfl (zOn_cons rfl (zOn_app (on_Mail_236 E) (len_Mail E _) (zOn_app (on_Mail_239 E) (len_Mail E _) (zOn_app (on_Mail_242 E) (len_Mail E _) (zOn_app (on_Mail_245 E) (len_Mail E _) (zOn_app (on_Mail_248 E) (len_Mail E _) (zOn_app (on_Mail_251 E) (len_Mail E _) (zOn_app (on_Mail_254 E) (len_Mail E _) (zOn_app (on_Mail_257 E) (len_Mail E _) zOn_nil))))))))))
set_option maxRecDepth 100000 in
set_option maxHeartbeats 4000000 in
theorem on_Mail_262 (E : zE) : zOn E 262 (T_Mail E 262) := by unfold T_Mail; exact (zOn_cons rfl (zOn_cons rfl (zOn_cons rfl zOn_nil)))
set_option maxRecDepth 100000 in
set_option maxHeartbeats 4000000 in
theorem on_Mail_265 (E : zE) : zOn E 265 (T_Mail E 265) := by unfold T_Mail; exact (zOn_cons rfl (zOn_cons rfl (zOn_cons rfl zOn_nil)))
set_option maxRecDepth 100000 in
set_option maxHeartbeats 4000000 in
theorem on_Mail_268 (E : zE) : zOn E 268 (T_Mail E 268) := by unfold T_Mail; exact (zOn_cons rfl (zOn_cons rfl (zOn_cons rfl zOn_nil)))
set_option maxRecDepth 100000 in
set_option maxHeartbeats 4000000 in
theorem on_Mail_271 (E : zE) : zOn E 271 (T_Mail E 271) := by unfold T_Mail; exact (zOn_cons rfl (zOn_cons rfl (zOn_cons rfl zOn_nil)))
set_option maxRecDepth 100000 in
set_option maxHeartbeats 4000000 in
theorem on_Mail_274 (E : zE) : zOn E 274 (T_Mail E 274) := by unfold T_Mail; exact (zOn_cons rfl (zOn_cons rfl (zOn_cons rfl zOn_nil)))
set_option maxRecDepth 100000 in
set_option maxHeartbeats 4000000 in
theorem on_Mail_277 (E : zE) : zOn E 277 (T_Mail E 277) := by unfold T_Mail; exact (zOn_cons rfl (zOn_cons rfl (zOn_cons rfl zOn_nil)))
set_option maxRecDepth 100000 in
set_option maxHeartbeats 4000000 in
theorem on_Mail_280 (E : zE) : zOn E 280 (T_Mail E 280) := by unfold T_Mail; exact (zOn_cons rfl (zOn_cons rfl (zOn_cons rfl zOn_nil)))
set_option maxRecDepth 100000 in
set_option maxHeartbeats 4000000 in
theorem on_Mail_283 (E : zE) : zOn E 283 (T_Mail E 283) := by unfold T_Mail; exact (zOn_cons rfl (zOn_cons rfl (zOn_cons rfl zOn_nil)))
set_option maxRecDepth 100000 in
set_option maxHeartbeats 4000000 in
theorem on_Bag_260 (E : zE) : zOn E 260 (T_Bag E 260) := by unfold T_Bag; exact (zOn_cons rfl (zOn_cons rfl (zOn_app (on_Mail_262 E) (len_Mail E _) (zOn_app (on_Mail_265 E) (len_Mail E _) (zOn_app (on_Mail_268 E) (len_Mail E _) (zOn_app (on_Mail_271 E) (len_Mail E _) (zOn_app (on_Mail_274 E) (len_Mail E _) (zOn_app (on_Mail_277 E) (len_Mail E _) (zOn_app (on_Mail_280 E) (len_Mail E _) (zOn_app (on_Mail_283 E) (len_Mail E _) zOn_nil))))))))))
set_option maxRecDepth 100000 in
set_option maxHeartbeats 4000000 in
theorem on_Mail_288 (E : zE) : zOn E 288 (T_Mail E 288) := by unfold T_Mail; exact (zOn_cons rfl (zOn_cons rfl (zOn_cons rfl zOn_nil)))
set_option maxRecDepth 100000 in
set_option maxHeartbeats 4000000 in
theorem on_Mail_291 (E : zE) : zOn E 291 (T_Mail E 291) := by unfold T_Mail; exact (zOn_cons rfl (zOn_cons rfl (zOn_cons rfl zOn_nil)))
set_option maxRecDepth 100000 in
set_option maxHeartbeats 4000000 in
theorem on_Mail_294 (E : zE) : zOn E 294 (T_Mail E 294) := by unfold T_Mail; exact (zOn_cons rfl (zOn_cons rfl (zOn_cons rfl zOn_nil)))
set_option maxRecDepth 100000 in
set_option maxHeartbeats 4000000 in
theorem on_Mail_297 (E : zE) : zOn E 297 (T_Mail E 297) := by unfold T_Mail; exact (zOn_cons rfl (zOn_cons rfl (zOn_cons rfl zOn_nil)))
set_option maxRecDepth 100000 in
set_option maxHeartbeats 4000000 in
theorem on_Mail_300 (E : zE) : zOn E 300 (T_Mail E 300) := by unfold T_Mail; exact (zOn_cons rfl (zOn_cons rfl (zOn_cons rfl zOn_nil)))
set_option maxRecDepth 100000 in
set_option maxHeartbeats 4000000 in
theorem on_Mail_303 (E : zE) : zOn E 303 (T_Mail E 303) := by unfold T_Mail; exact (zOn_cons rfl (zOn_cons rfl (zOn_cons rfl zOn_nil)))
set_option maxRecDepth 100000 in
set_option maxHeartbeats 4000000 in
theorem on_Mail_306 (E : zE) : zOn E 306 (T_Mail E 306) := by unfold T_Mail; exact (zOn_cons rfl (zOn_cons rfl (zOn_cons rfl zOn_nil)))
set_option maxRecDepth 100000 in
set_option maxHeartbeats 4000000 in
theorem on_Mail_309 (E : zE) : zOn E 309 (T_Mail E 309) := by unfold T_Mail; exact (zOn_cons rfl (zOn_cons rfl (zOn_cons rfl zOn_nil)))
set_option maxRecDepth 100000 in
set_option maxHeartbeats 4000000 in
theorem on_Bag_286 (E : zE) : zOn E 286 (T_Bag E 286) := by unfold T_Bag; exact (zOn_cons rfl (zOn_cons rfl (zOn_app (on_Mail_288 E) (len_Mail E _) (zOn_app (on_Mail_291 E) (len_Mail E _) (zOn_app (on_Mail_294 E) (len_Mail E _) (zOn_app (on_Mail_297 E) (len_Mail E _) (zOn_app (on_Mail_300 E) (len_Mail E _) (zOn_app (on_Mail_303 E) (len_Mail E _) (zOn_app (on_Mail_306 E) (len_Mail E _) (zOn_app (on_Mail_309 E) (len_Mail E _) zOn_nil))))))))))
set_option maxRecDepth 100000 in
set_option maxHeartbeats 4000000 in
theorem on_Mail_314 (E : zE) : zOn E 314 (T_Mail E 314) := by unfold T_Mail; exact (zOn_cons rfl (zOn_cons rfl (zOn_cons rfl zOn_nil)))
set_option maxRecDepth 100000 in
set_option maxHeartbeats 4000000 in
theorem on_Mail_317 (E : zE) : zOn E 317 (T_Mail E 317) := by unfold T_Mail; exact (zOn_cons rfl (zOn_cons rfl (zOn_cons rfl zOn_nil)))
set_option maxRecDepth 100000 in
set_option maxHeartbeats 4000000 in
theorem on_Mail_320 (E : zE) : zOn E 320 (T_Mail E 320) := by unfold T_Mail; exact (zOn_cons rfl (zOn_cons rfl (zOn_cons rfl zOn_nil)))
set_option maxRecDepth 100000 in
set_option maxHeartbeats 4000000 in
theorem on_Mail_323 (E : zE) : zOn E 323 (T_Mail E 323) := by unfold T_Mail; exact (zOn_cons rfl (zOn_cons rfl (zOn_cons rfl zOn_nil)))
set_option maxRecDepth 100000 in
set_option maxHeartbeats 4000000 in
theorem on_Mail_326 (E : zE) : zOn E 326 (T_Mail E 326) := by unfold T_Mail; exact (zOn_cons rfl (zOn_cons rfl (zOn_cons rfl zOn_nil)))
set_option maxRecDepth 100000 in
set_option maxHeartbeats 4000000 in
theorem on_Mail_329 (E : zE) : zOn E 329 (T_Mail E 329) := by unfold T_Mail; exact (zOn_cons rfl (zOn_cons rfl (zOn_cons rfl zOn_nil)))
set_option maxRecDepth 100000 in
set_option maxHeartbeats 4000000 in
theorem on_Mail_332 (E : zE) : zOn E 332 (T_Mail E 332) := by unfold T_Mail; exact (zOn_cons rfl (zOn_cons rfl (zOn_cons rfl zOn_nil)))
set_option maxRecDepth 100000 in
set_option maxHeartbeats 4000000 in
theorem on_Mail_335 (E : zE) : zOn E 335 (T_Mail E 335) := by unfold T_Mail; exact (zOn_cons rfl (zOn_cons rfl (zOn_cons rfl zOn_nil)))
set_option maxRecDepth 100000 in
set_option maxHeartbeats 4000000 in
theorem on_Bag_312 (E : zE) : zOn E 312 (T_Bag E 312) := by unfold T_Bag; exact (zOn_cons rfl (zOn_cons rfl (zOn_app (on_Mail_314 E) (len_Mail E _) (zOn_app (on_Mail_317 E) (len_Mail E _) (zOn_app (on_Mail_320 E) (len_Mail E _) (zOn_app (on_Mail_323 E) (len_Mail E _) (zOn_app (on_Mail_326 E) (len_Mail E _) (zOn_app (on_Mail_329 E) (len_Mail E _) (zOn_app (on_Mail_332 E) (len_Mail E _) (zOn_app (on_Mail_335 E) (len_Mail E _) zOn_nil))))))))))
set_option maxRecDepth 100000 in
set_option maxHeartbeats 4000000 in
theorem on_Mail_340 (E : zE) : zOn E 340 (T_Mail E 340) := by unfold T_Mail; exact (zOn_cons rfl (zOn_cons rfl (zOn_cons rfl zOn_nil)))
set_option maxRecDepth 100000 in
set_option maxHeartbeats 4000000 in
theorem on_Mail_343 (E : zE) : zOn E 343 (T_Mail E 343) := by unfold T_Mail; exact (zOn_cons rfl (zOn_cons rfl (zOn_cons rfl zOn_nil)))
set_option maxRecDepth 100000 in
set_option maxHeartbeats 4000000 in
theorem on_Mail_346 (E : zE) : zOn E 346 (T_Mail E 346) := by unfold T_Mail; exact (zOn_cons rfl (zOn_cons rfl (zOn_cons rfl zOn_nil)))
set_option maxRecDepth 100000 in
set_option maxHeartbeats 4000000 in
theorem on_Mail_349 (E : zE) : zOn E 349 (T_Mail E 349) := by unfold T_Mail; exact (zOn_cons rfl (zOn_cons rfl (zOn_cons rfl zOn_nil)))
set_option maxRecDepth 100000 in
set_option maxHeartbeats 4000000 in
theorem on_Mail_352 (E : zE) : zOn E 352 (T_Mail E 352) := by unfold T_Mail; exact (zOn_cons rfl (zOn_cons rfl (zOn_cons rfl zOn_nil)))
set_option maxRecDepth 100000 in
set_option maxHeartbeats 4000000 in
theorem on_Mail_355 (E : zE) : zOn E 355 (T_Mail E 355) := by unfold T_Mail; exact (zOn_cons rfl (zOn_cons rfl (zOn_cons rfl zOn_nil)))
set_option maxRecDepth 100000 in
set_option maxHeartbeats 4000000 in
theorem on_Mail_358 (E : zE) : zOn E 358 (T_Mail E 358) := by unfold T_Mail; exact (zOn_cons rfl (zOn_cons rfl (zOn_cons rfl zOn_nil)))
set_option maxRecDepth 100000 in
set_option maxHeartbeats 4000000 in
theorem on_Mail_361 (E : zE) : zOn E 361 (T_Mail E 361) := by unfold T_Mail; exact (zOn_cons rfl (zOn_cons rfl (zOn_cons rfl zOn_nil)))
set_option maxRecDepth 100000 in
set_option maxHeartbeats 4000000 in
theorem on_Bag_338 (E : zE) : zOn E 338 (T_Bag E 338) := by unfold T_Bag; exact (zOn_cons rfl (zOn_cons rfl (zOn_app (on_Mail_340 E) (len_Mail E _) (zOn_app (on_Mail_343 E) (len_Mail E _) (zOn_app (on_Mail_346 E) (len_Mail E _) (zOn_app (on_Mail_349 E) (len_Mail E _) (zOn_app (on_Mail_352 E) (len_Mail E _) (zOn_app (on_Mail_355 E) (len_Mail E _) (zOn_app (on_Mail_358 E) (len_Mail E _) (zOn_app (on_Mail_361 E) (len_Mail E _) zOn_nil))))))))))
set_option maxRecDepth 100000 in
set_option maxHeartbeats 4000000 in
theorem on_Mail_366 (E : zE) : zOn E 366 (T_Mail E 366) := by unfold T_Mail; exact (zOn_cons rfl (zOn_cons rfl (zOn_cons rfl zOn_nil)))
set_option maxRecDepth 100000 in
set_option maxHeartbeats 4000000 in
theorem on_Mail_369 (E : zE) : zOn E 369 (T_Mail E 369) := by unfold T_Mail; exact (zOn_cons rfl (zOn_cons rfl (zOn_cons rfl zOn_nil)))
set_option maxRecDepth 100000 in
set_option maxHeartbeats 4000000 in
theorem on_Mail_372 (E : zE) : zOn E 372 (T_Mail E 372) := by unfold T_Mail; exact (zOn_cons rfl (zOn_cons rfl (zOn_cons rfl zOn_nil)))
set_option maxRecDepth 100000 in
set_option maxHeartbeats 4000000 in
theorem on_Mail_375 (E : zE) : zOn E 375 (T_Mail E 375) := by unfold T_Mail; exact (zOn_cons rfl (zOn_cons rfl (zOn_cons rfl zOn_nil)))
set_option maxRecDepth 100000 in
set_option maxHeartbeats 4000000 in
theorem on_Mail_378 (E : zE) : zOn E 378 (T_Mail E 378) := by unfold T_Mail; exact (zOn_cons rfl (zOn_cons rfl (zOn_cons rfl zOn_nil)))
set_option maxRecDepth 100000 in
set_option maxHeartbeats 4000000 in
theorem on_Mail_381 (E : zE) : zOn E 381 (T_Mail E 381) := by unfold T_Mail; exact (zOn_cons rfl (zOn_cons rfl (zOn_cons rfl zOn_nil)))
set_option maxRecDepth 100000 in
set_option maxHeartbeats 4000000 in
theorem on_Mail_384 (E : zE) : zOn E 384 (T_Mail E 384) := by unfold T_Mail; exact (zOn_cons rfl (zOn_cons rfl (zOn_cons rfl zOn_nil)))
set_option maxRecDepth 100000 in
set_option maxHeartbeats 4000000 in
theorem on_Mail_387 (E : zE) : zOn E 387 (T_Mail E 387) := by unfold T_Mail; exact (zOn_cons rfl (zOn_cons rfl (zOn_cons rfl zOn_nil)))
set_option maxRecDepth 100000 in
set_option maxHeartbeats 4000000 in
theorem on_Bag_364 (E : zE) : zOn E 364 (T_Bag E 364) := by unfold T_Bag; exact (zOn_cons rfl (zOn_cons rfl (zOn_app (on_Mail_366 E) (len_Mail E _) (zOn_app (on_Mail_369 E) (len_Mail E _) (zOn_app (on_Mail_372 E) (len_Mail E _) (zOn_app (on_Mail_375 E) (len_Mail E _) (zOn_app (on_Mail_378 E) (len_Mail E _) (zOn_app (on_Mail_381 E) (len_Mail E _) (zOn_app (on_Mail_384 E) (len_Mail E _) (zOn_app (on_Mail_387 E) (len_Mail E _) zOn_nil))))))))))
set_option maxRecDepth 100000 in
set_option maxHeartbeats 4000000 in
theorem on_Memory_76 (E : zE) : zOn E 76 (T_Memory E 76) := by unfold T_Memory; exact (zOn_cons rfl (zOn_cons rfl (zOn_app (on_Bag_78 E) (len_Bag E _) (zOn_app (on_Bag_104 E) (len_Bag E _) (zOn_app (on_Bag_130 E) (len_Bag E _) (zOn_app (on_Bag_156 E) (len_Bag E _) (zOn_app (on_Bag_182 E) (len_Bag E _) (zOn_app (on_Bag_208 E) (len_Bag E _) (zOn_app (on_Bag_234 E) (len_Bag E _) (zOn_app (on_Bag_260 E) (len_Bag E _) (zOn_app (on_Bag_286 E) (len_Bag E _) (zOn_app (on_Bag_312 E) (len_Bag E _) (zOn_app (on_Bag_338 E) (len_Bag E _) (zOn_app (on_Bag_364 E) (len_Bag E _) zOn_nil))))))))))))))
set_option maxRecDepth 100000 in
set_option maxHeartbeats 4000000 in
theorem on_Tokens_391 (E : zE) : zOn E 391 (T_Tokens E 391) := by unfold T_Tokens; exact (zOn_cons rfl (zOn_cons rfl (zOn_cons rfl (zOn_cons rfl (zOn_cons rfl zOn_nil)))))
set_option maxRecDepth 100000 in
set_option maxHeartbeats 4000000 in
theorem on_Mail_399 (E : zE) : zOn E 399 (T_Mail E 399) := by unfold T_Mail; exact (zOn_cons rfl (zOn_cons rfl (zOn_cons rfl zOn_nil)))
set_option maxRecDepth 100000 in
set_option maxHeartbeats 4000000 in
theorem on_Mail_402 (E : zE) : zOn E 402 (T_Mail E 402) := by unfold T_Mail; exact (zOn_cons rfl (zOn_cons rfl (zOn_cons rfl zOn_nil)))
set_option maxRecDepth 100000 in
set_option maxHeartbeats 4000000 in
theorem on_Mail_405 (E : zE) : zOn E 405 (T_Mail E 405) := by unfold T_Mail; exact (zOn_cons rfl (zOn_cons rfl (zOn_cons rfl zOn_nil)))
set_option maxRecDepth 100000 in
set_option maxHeartbeats 4000000 in
theorem on_Mail_408 (E : zE) : zOn E 408 (T_Mail E 408) := by unfold T_Mail; exact (zOn_cons rfl (zOn_cons rfl (zOn_cons rfl zOn_nil)))
set_option maxRecDepth 100000 in
set_option maxHeartbeats 4000000 in
theorem on_Mail_411 (E : zE) : zOn E 411 (T_Mail E 411) := by unfold T_Mail; exact (zOn_cons rfl (zOn_cons rfl (zOn_cons rfl zOn_nil)))
set_option maxRecDepth 100000 in
set_option maxHeartbeats 4000000 in
theorem on_Mail_414 (E : zE) : zOn E 414 (T_Mail E 414) := by unfold T_Mail; exact (zOn_cons rfl (zOn_cons rfl (zOn_cons rfl zOn_nil)))
set_option maxRecDepth 100000 in
set_option maxHeartbeats 4000000 in
theorem on_Mail_417 (E : zE) : zOn E 417 (T_Mail E 417) := by unfold T_Mail; exact (zOn_cons rfl (zOn_cons rfl (zOn_cons rfl zOn_nil)))
set_option maxRecDepth 100000 in
set_option maxHeartbeats 4000000 in
theorem on_Mail_420 (E : zE) : zOn E 420 (T_Mail E 420) := by unfold T_Mail; exact (zOn_cons rfl (zOn_cons rfl (zOn_cons rfl zOn_nil)))
set_option maxRecDepth 100000 in
set_option maxHeartbeats 4000000 in
theorem on_Bag_397 (E : zE) : zOn E 397 (T_Bag E 397) := by unfold T_Bag; exact (zOn_cons rfl (zOn_cons rfl (zOn_app (on_Mail_399 E) (len_Mail E _) (zOn_app (on_Mail_402 E) (len_Mail E _) (zOn_app (on_Mail_405 E) (len_Mail E _) (zOn_app (on_Mail_408 E) (len_Mail E _) (zOn_app (on_Mail_411 E) (len_Mail E _) (zOn_app (on_Mail_414 E) (len_Mail E _) (zOn_app (on_Mail_417 E) (len_Mail E _) (zOn_app (on_Mail_420 E) (len_Mail E _) zOn_nil))))))))))
set_option maxRecDepth 100000 in
set_option maxHeartbeats 4000000 in
theorem on_Law_423 (E : zE) : zOn E 423 (T_Law E 423) := by unfold T_Law; exact (zOn_cons rfl (zOn_cons rfl (zOn_cons rfl (zOn_cons rfl (zOn_cons rfl (zOn_cons rfl (zOn_cons rfl zOn_nil)))))))
set_option maxRecDepth 100000 in
set_option maxHeartbeats 4000000 in
theorem on_World_396 (E : zE) : zOn E 396 (T_World E 396) := by unfold T_World; exact (zOn_cons rfl (zOn_app (on_Bag_397 E) (len_Bag E _) (zOn_app (on_Law_423 E) (len_Law E _) (zOn_cons rfl (zOn_cons rfl (zOn_cons rfl zOn_nil))))))
set_option maxRecDepth 100000 in
set_option maxHeartbeats 4000000 in
theorem on_PostReader_390 (E : zE) : zOn E 390 (T_PostReader E 390) := by unfold T_PostReader; exact (zOn_cons rfl (zOn_app (on_Tokens_391 E) (len_Tokens E _) (zOn_app (on_World_396 E) (len_World E _) zOn_nil)))
set_option maxRecDepth 100000 in
set_option maxHeartbeats 4000000 in
theorem on_Tokens_434 (E : zE) : zOn E 434 (T_Tokens E 434) := by unfold T_Tokens; exact (zOn_cons rfl (zOn_cons rfl (zOn_cons rfl (zOn_cons rfl (zOn_cons rfl zOn_nil)))))
set_option maxRecDepth 100000 in
set_option maxHeartbeats 4000000 in
theorem on_Law_439 (E : zE) : zOn E 439 (T_Law E 439) := by unfold T_Law; exact (zOn_cons rfl (zOn_cons rfl (zOn_cons rfl (zOn_cons rfl (zOn_cons rfl (zOn_cons rfl (zOn_cons rfl zOn_nil)))))))
set_option maxRecDepth 100000 in
set_option maxHeartbeats 4000000 in
theorem on_LawReader_433 (E : zE) : zOn E 433 (T_LawReader E 433) := by unfold T_LawReader; exact (zOn_cons rfl (zOn_app (on_Tokens_434 E) (len_Tokens E _) (zOn_app (on_Law_439 E) (len_Law E _) zOn_nil)))
set_option maxRecDepth 100000 in
set_option maxHeartbeats 4000000 in
theorem on_Mail_447 (E : zE) : zOn E 447 (T_Mail E 447) := by unfold T_Mail; exact (zOn_cons rfl (zOn_cons rfl (zOn_cons rfl zOn_nil)))
set_option maxRecDepth 100000 in
set_option maxHeartbeats 4000000 in
theorem on_Sight_446 (E : zE) : zOn E 446 (T_Sight E 446) := by unfold T_Sight; exact (zOn_cons rfl (zOn_app (on_Mail_447 E) (len_Mail E _) zOn_nil))
set_option maxRecDepth 100000 in
set_option maxHeartbeats 4000000 in
theorem on_Mail_451 (E : zE) : zOn E 451 (T_Mail E 451) := by unfold T_Mail; exact (zOn_cons rfl (zOn_cons rfl (zOn_cons rfl zOn_nil)))
set_option maxRecDepth 100000 in
set_option maxHeartbeats 4000000 in
theorem on_Sight_450 (E : zE) : zOn E 450 (T_Sight E 450) := by unfold T_Sight; exact (zOn_cons rfl (zOn_app (on_Mail_451 E) (len_Mail E _) zOn_nil))
set_option maxRecDepth 100000 in
set_option maxHeartbeats 4000000 in
theorem on_Mail_456 (E : zE) : zOn E 456 (T_Mail E 456) := by unfold T_Mail; exact (zOn_cons rfl (zOn_cons rfl (zOn_cons rfl zOn_nil)))
set_option maxRecDepth 100000 in
set_option maxHeartbeats 4000000 in
theorem on_Mail_459 (E : zE) : zOn E 459 (T_Mail E 459) := by unfold T_Mail; exact (zOn_cons rfl (zOn_cons rfl (zOn_cons rfl zOn_nil)))
set_option maxRecDepth 100000 in
set_option maxHeartbeats 4000000 in
theorem on_Mail_462 (E : zE) : zOn E 462 (T_Mail E 462) := by unfold T_Mail; exact (zOn_cons rfl (zOn_cons rfl (zOn_cons rfl zOn_nil)))
set_option maxRecDepth 100000 in
set_option maxHeartbeats 4000000 in
theorem on_Mail_465 (E : zE) : zOn E 465 (T_Mail E 465) := by unfold T_Mail; exact (zOn_cons rfl (zOn_cons rfl (zOn_cons rfl zOn_nil)))
set_option maxRecDepth 100000 in
set_option maxHeartbeats 4000000 in
theorem on_Mail_468 (E : zE) : zOn E 468 (T_Mail E 468) := by unfold T_Mail; exact (zOn_cons rfl (zOn_cons rfl (zOn_cons rfl zOn_nil)))
set_option maxRecDepth 100000 in
set_option maxHeartbeats 4000000 in
theorem on_Mail_471 (E : zE) : zOn E 471 (T_Mail E 471) := by unfold T_Mail; exact (zOn_cons rfl (zOn_cons rfl (zOn_cons rfl zOn_nil)))
set_option maxRecDepth 100000 in
set_option maxHeartbeats 4000000 in
theorem on_Mail_474 (E : zE) : zOn E 474 (T_Mail E 474) := by unfold T_Mail; exact (zOn_cons rfl (zOn_cons rfl (zOn_cons rfl zOn_nil)))
set_option maxRecDepth 100000 in
set_option maxHeartbeats 4000000 in
theorem on_Mail_477 (E : zE) : zOn E 477 (T_Mail E 477) := by unfold T_Mail; exact (zOn_cons rfl (zOn_cons rfl (zOn_cons rfl zOn_nil)))
set_option maxRecDepth 100000 in
set_option maxHeartbeats 4000000 in
theorem on_Bag_454 (E : zE) : zOn E 454 (T_Bag E 454) := by unfold T_Bag; exact (zOn_cons rfl (zOn_cons rfl (zOn_app (on_Mail_456 E) (len_Mail E _) (zOn_app (on_Mail_459 E) (len_Mail E _) (zOn_app (on_Mail_462 E) (len_Mail E _) (zOn_app (on_Mail_465 E) (len_Mail E _) (zOn_app (on_Mail_468 E) (len_Mail E _) (zOn_app (on_Mail_471 E) (len_Mail E _) (zOn_app (on_Mail_474 E) (len_Mail E _) (zOn_app (on_Mail_477 E) (len_Mail E _) zOn_nil))))))))))
set_option maxRecDepth 100000 in
set_option maxHeartbeats 4000000 in
theorem on_Shelving_480 (E : zE) : zOn E 480 (T_Shelving E 480) := by unfold T_Shelving; exact (zOn_cons rfl (zOn_cons rfl (zOn_cons rfl zOn_nil)))
set_option maxRecDepth 100000 in
set_option maxHeartbeats 4000000 in
theorem on_Post_0 (E : zE) : zOn E 0 (T_Post E 0) := by unfold T_Post; exact (zOn_cons rfl (zOn_cons rfl (zOn_app (on_World_2 E) (len_World E _) (zOn_app (on_World_39 E) (len_World E _) (zOn_app (on_Memory_76 E) (len_Memory E _) (zOn_app (on_PostReader_390 E) (len_PostReader E _) (zOn_app (on_LawReader_433 E) (len_LawReader E _) (zOn_app (on_Sight_446 E) (len_Sight E _) (zOn_app (on_Sight_450 E) (len_Sight E _) (zOn_app (on_Bag_454 E) (len_Bag E _) (zOn_app (on_Shelving_480 E) (len_Shelving E _) (zOn_cons rfl (zOn_cons rfl (zOn_cons rfl (zOn_cons rfl (zOn_cons rfl (zOn_cons rfl (zOn_cons rfl (zOn_cons rfl (zOn_cons rfl (zOn_cons rfl zOn_nil)))))))))))))))))))))
set_option maxRecDepth 100000 in
set_option maxHeartbeats 4000000 in
theorem on_Model_493 (E : zE) : zOn E 493 (T_Model E 493) := by unfold T_Model; exact (zOn_cons rfl (zOn_cons rfl (zOn_cons rfl (zOn_cons rfl (zOn_cons rfl (zOn_cons rfl (zOn_cons rfl (zOn_cons rfl (zOn_cons rfl (zOn_cons rfl (zOn_cons rfl (zOn_cons rfl (zOn_cons rfl (zOn_cons rfl (zOn_cons rfl zOn_nil)))))))))))))))
def zW0 (E : zE) : va_W := T_Post E 0 ++ (T_Model E 493 ++ [(E.1 + 508, .inl (E.2.2.1 2, 1, .inr (.inl (fun _ => 0))))])
set_option maxRecDepth 100000 in
set_option maxHeartbeats 4000000 in
theorem zW0_on (E : zE) : zOn E 0 (zW0 E) := zOn_app (on_Post_0 E) (len_Post E _) (zOn_app (on_Model_493 E) (len_Model E _) (zOn_cons rfl zOn_nil))
theorem zW0_len (E : zE) : (zW0 E).length = 509 := by unfold zW0; simp only [List.length_append, List.length_cons, List.length_nil, len_Post, len_Model]
set_option maxRecDepth 100000 in
set_option maxHeartbeats 4000000 in
theorem zPic_start {E : zE} {H : Heap} (hP : va_P E.2.1 vwCl (zW0 E) H) : zPic E zg0 H := by
  have hget : ∀ id, id < 509 → (zW0 E)[id]? = some (E.1 + id, zcell E (zK id) id (zg0 id)) := fun id h => by
    obtain ⟨q, hq⟩ : ∃ q, (zW0 E)[id]? = some q := ⟨_, List.getElem?_eq_getElem (by rw [zW0_len]; exact h)⟩
    have h1 := zW0_on E id q hq
    rw [Nat.zero_add] at h1
    rw [hq, h1]
  refine ⟨?_, fun id h => hP id _ (hget id h)⟩
  have h2 := (hP 508 _ (hget 508 (by decide))).lt
  dsimp only at h2
  omega
