-- the law's switch: read (a pattern for the others)
section WE
variable {sh : am_Sh} {c : Nat} {W : am_M}
abbrev sck : am_V := am_R (some (31, 0, 0))
theorem lr_read (hsh : shk sh) (hJ : Jn sh c W W) (hL : sh.2.2.2 < 2147483648) {i : Nat} (hi : i + 6 ≤ sh.2.2.2) (hc : c + KK sh.1 < 2 ^ 31) {d : Nat} (hd : 45 ≤ d) {P : am_S ⊕ am_O → Prop} {u5 u6 : Option am_V} (hP : ∀ W2 c' l5 l6, Jn sh c' W2 W2 → c' ≤ c + KK sh.1 → (∀ j, W2 (31, 0, 0) j = W (31, 0, 0) j) → am_ev sh (am_cr sh d) 121 (1160, [some sck, some clk, some mok, some outk, some (am_I (nI i)), l5, l6], [], W2, 1) P) : am_ev sh (am_cr sh d) 121 (248, [some sck, some clk, some mok, some outk, some (am_I (nI i)), u5, u6], [], W, 0) P := by
  obtain ⟨r1, r2, W1, W2, c', g1, g2, g3, g4, g5, g6, g7, g8⟩ := w_read hsh hJ (W (31, 0, 0) (i + 1)) hc
  refine sg_121_248 (j1 := i + 1) hL (nI_1 i) (by omega) (g1 d (by omega)) (by rw [g7]; exact g2 d (by omega)) (m_thrown d (by omega)) (fun _ => sg_121_284 (fun _ => sg_121_301 (hP W2 c' _ _ g5 g6 g8)) (fun e => sg_121_289 (fun _ => sg_121_301 (hP W2 c' _ _ g5 g6 g8)) (fun q => absurd (g4 e) q))) (fun e => absurd g3 e)
end WE
