section LC
variable {p : Program} {l : Launch} {e : Env} {R : Room} {s : State} {m : MethodId} {args : Array Value} {below : List Frame} {meth : Method} {c : Code} {H : Heap} {locs : List Loc} {sl : Nat} {Q : State → Prop} {sz : Nat} {D : va_G} {TY : List (ClassId × FieldType)}
theorem L_case_0 {b L i fuel fuel2 d s1 s2 : Nat} {xs : Nat → Int32} {ls : Array Slot} {v : Int32} {h h1 h2 : E_H} {fs gs : List Value} (X : L_X p s m args c D TY b L xs sz) (hl : lv_has ls 4 [(0, .ref b), (1, .ref (sz + 0)), (2, .ref (sz + 83)), (3, .int (nI i))]) (hS : E_S D TY sz 0 s h H locs) (hi6 : i + 6 ≤ L)
    (q1 : E_call fuel d 145 (.ref 0 :: ([xs (i + 1), xs (i + 2), xs (i + 3), xs (i + 4), xs (i + 5)] : List Int32).map Value.int) h = some (some (.int v), h1, s1)) (q2 : E_call fuel2 d 175 (.ref 83 :: ([xs (i + 1), xs (i + 2), xs (i + 3), xs (i + 4), xs (i + 5)] : List Int32).map Value.int) h1 = some (some (.int v), h2, s2)) (o1 : h[0]? = some (.inr (11, fs))) (o2 : h1[83]? = some (.inr (12, gs)))
    (hRf : d + 1 ≤ R.frames) (hRl : 48 * (d + 1) ≤ R.locals) (hR1 : h1.length ≤ R.cells) (hR2 : h2.length ≤ R.cells) (hR3 : sl + s1 + s2 ≤ R.slots)
    (kk : ∀ (H1 : Heap) (locs1 : List Loc), E_S D TY sz 0 s h2 H1 locs1 → W p l e R s m args below meth c H1 locs1 h2.length (sl + s1 + s2) Q (F0 m 613 ls [])) : W p l e R s m args below meth c H locs h.length sl Q (F0 m 116 ls []) := by
  have hx := X.1
  have hb := X.2.1
  refine lv_aload_n hx hb d_law_116 rfl (lv_at hl 1 rfl) ?_
  refine L_arg (k := 1) X hl hS.2.1 (by omega) rfl d_law_117 d_law_118 d_law_119 d_law_120 d_law_121 ?_
  refine L_arg (k := 2) X hl hS.2.1 (by omega) rfl d_law_122 d_law_123 d_law_124 d_law_125 d_law_126 ?_
  refine L_arg (k := 3) X hl hS.2.1 (by omega) rfl d_law_127 d_law_128 d_law_129 d_law_130 d_law_131 ?_
  refine L_arg (k := 4) X hl hS.2.1 (by omega) rfl d_law_132 d_law_133 d_law_134 d_law_135 d_law_136 ?_
  refine L_arg (k := 5) X hl hS.2.1 (by omega) rfl d_law_137 d_law_138 d_law_139 d_law_140 d_law_141 ?_
  show W p l e R s m args below meth c H locs h.length sl Q (F0 m 142 ls ((([xs (i + 1), xs (i + 2), xs (i + 3), xs (i + 4), xs (i + 5)] : List Int32).map Value.int).reverse ++ .ref (sz + 0) :: []))
  refine L_call (M := E_m145) X hl.1 hS rfl q1 o1 (by decide) rfl (by decide +kernel) rfl l_law_13 d_law_142 hRf hRl (Nat.zero_le _) ⟨hR1, by omega⟩ (fun H1 locs1 hS1 => ?_)
  refine lv_aload_n hx hb d_law_145 rfl (lv_at hl 2 rfl) ?_
  refine L_arg (k := 1) X hl hS1.2.1 (by omega) rfl d_law_146 d_law_147 d_law_148 d_law_149 d_law_150 ?_
  refine L_arg (k := 2) X hl hS1.2.1 (by omega) rfl d_law_151 d_law_152 d_law_153 d_law_154 d_law_155 ?_
  refine L_arg (k := 3) X hl hS1.2.1 (by omega) rfl d_law_156 d_law_157 d_law_158 d_law_159 d_law_160 ?_
  refine L_arg (k := 4) X hl hS1.2.1 (by omega) rfl d_law_161 d_law_162 d_law_163 d_law_164 d_law_165 ?_
  refine L_arg (k := 5) X hl hS1.2.1 (by omega) rfl d_law_166 d_law_167 d_law_168 d_law_169 d_law_170 ?_
  show W p l e R s m args below meth c H1 locs1 h1.length (sl + s1) Q (F0 m 171 ls ((([xs (i + 1), xs (i + 2), xs (i + 3), xs (i + 4), xs (i + 5)] : List Int32).map Value.int).reverse ++ .ref (sz + 83) :: [.int v]))
  refine L_call (M := E_m175) X hl.1 hS1 rfl q2 o2 (by decide) rfl (by decide +kernel) rfl l_law_17 d_law_171 hRf hRl (Nat.le_of_ble_eq_true rfl) ⟨hR2, hR3⟩ (fun H2 locs2 hS2 => ?_)
  refine lv_icmp_eq (tgt := 613) hx hb d_law_174 (by decide) (fun _ => ?_) (fun cn => absurd rfl cn)
  exact kk H2 locs2 hS2
theorem L_case_1 {b L i fuel fuel2 d s1 s2 : Nat} {xs : Nat → Int32} {ls : Array Slot} {v : Int32} {h h1 h2 : E_H} {fs gs : List Value} (X : L_X p s m args c D TY b L xs sz) (hl : lv_has ls 4 [(0, .ref b), (1, .ref (sz + 0)), (2, .ref (sz + 83)), (3, .int (nI i))]) (hS : E_S D TY sz 0 s h H locs) (hi6 : i + 6 ≤ L)
    (q1 : E_call fuel d 146 (.ref 0 :: ([xs (i + 1)] : List Int32).map Value.int) h = some (some (.int v), h1, s1)) (q2 : E_call fuel2 d 176 (.ref 83 :: ([xs (i + 1)] : List Int32).map Value.int) h1 = some (some (.int v), h2, s2)) (o1 : h[0]? = some (.inr (11, fs))) (o2 : h1[83]? = some (.inr (12, gs)))
    (hRf : d + 1 ≤ R.frames) (hRl : 48 * (d + 1) ≤ R.locals) (hR1 : h1.length ≤ R.cells) (hR2 : h2.length ≤ R.cells) (hR3 : sl + s1 + s2 ≤ R.slots)
    (kk : ∀ (H1 : Heap) (locs1 : List Loc), E_S D TY sz 0 s h2 H1 locs1 → W p l e R s m args below meth c H1 locs1 h2.length (sl + s1 + s2) Q (F0 m 613 ls [])) : W p l e R s m args below meth c H locs h.length sl Q (F0 m 179 ls []) := by
  have hx := X.1
  have hb := X.2.1
  refine lv_aload_n hx hb d_law_179 rfl (lv_at hl 1 rfl) ?_
  refine L_arg (k := 1) X hl hS.2.1 (by omega) rfl d_law_180 d_law_181 d_law_182 d_law_183 d_law_184 ?_
  show W p l e R s m args below meth c H locs h.length sl Q (F0 m 185 ls ((([xs (i + 1)] : List Int32).map Value.int).reverse ++ .ref (sz + 0) :: []))
  refine L_call (M := E_m146) X hl.1 hS rfl q1 o1 (by decide) rfl (by decide +kernel) rfl l_law_18 d_law_185 hRf hRl (Nat.zero_le _) ⟨hR1, by omega⟩ (fun H1 locs1 hS1 => ?_)
  refine lv_aload_n hx hb d_law_188 rfl (lv_at hl 2 rfl) ?_
  refine L_arg (k := 1) X hl hS1.2.1 (by omega) rfl d_law_189 d_law_190 d_law_191 d_law_192 d_law_193 ?_
  show W p l e R s m args below meth c H1 locs1 h1.length (sl + s1) Q (F0 m 194 ls ((([xs (i + 1)] : List Int32).map Value.int).reverse ++ .ref (sz + 83) :: [.int v]))
  refine L_call (M := E_m176) X hl.1 hS1 rfl q2 o2 (by decide) rfl (by decide +kernel) rfl l_law_22 d_law_194 hRf hRl (Nat.le_of_ble_eq_true rfl) ⟨hR2, hR3⟩ (fun H2 locs2 hS2 => ?_)
  refine lv_icmp_eq (tgt := 613) hx hb d_law_197 (by decide) (fun _ => ?_) (fun cn => absurd rfl cn)
  exact kk H2 locs2 hS2
theorem L_case_2 {b L i fuel fuel2 d s1 s2 : Nat} {xs : Nat → Int32} {ls : Array Slot} {v : Int32} {h h1 h2 : E_H} {fs gs : List Value} (X : L_X p s m args c D TY b L xs sz) (hl : lv_has ls 4 [(0, .ref b), (1, .ref (sz + 0)), (2, .ref (sz + 83)), (3, .int (nI i))]) (hS : E_S D TY sz 0 s h H locs) (hi6 : i + 6 ≤ L)
    (q1 : E_call fuel d 147 (.ref 0 :: ([] : List Int32).map Value.int) h = some (some (.int v), h1, s1)) (q2 : E_call fuel2 d 180 (.ref 83 :: ([] : List Int32).map Value.int) h1 = some (some (.int v), h2, s2)) (o1 : h[0]? = some (.inr (11, fs))) (o2 : h1[83]? = some (.inr (12, gs)))
    (hRf : d + 1 ≤ R.frames) (hRl : 48 * (d + 1) ≤ R.locals) (hR1 : h1.length ≤ R.cells) (hR2 : h2.length ≤ R.cells) (hR3 : sl + s1 + s2 ≤ R.slots)
    (kk : ∀ (H1 : Heap) (locs1 : List Loc), E_S D TY sz 0 s h2 H1 locs1 → W p l e R s m args below meth c H1 locs1 h2.length (sl + s1 + s2) Q (F0 m 613 ls [])) : W p l e R s m args below meth c H locs h.length sl Q (F0 m 202 ls []) := by
  have hx := X.1
  have hb := X.2.1
  refine lv_aload_n hx hb d_law_202 rfl (lv_at hl 1 rfl) ?_
  show W p l e R s m args below meth c H locs h.length sl Q (F0 m 203 ls ((([] : List Int32).map Value.int).reverse ++ .ref (sz + 0) :: []))
  refine L_call (M := E_m147) X hl.1 hS rfl q1 o1 (by decide) rfl (by decide +kernel) rfl l_law_23 d_law_203 hRf hRl (Nat.zero_le _) ⟨hR1, by omega⟩ (fun H1 locs1 hS1 => ?_)
  refine lv_aload_n hx hb d_law_206 rfl (lv_at hl 2 rfl) ?_
  show W p l e R s m args below meth c H1 locs1 h1.length (sl + s1) Q (F0 m 207 ls ((([] : List Int32).map Value.int).reverse ++ .ref (sz + 83) :: [.int v]))
  refine L_call (M := E_m180) X hl.1 hS1 rfl q2 o2 (by decide) rfl (by decide +kernel) rfl l_law_27 d_law_207 hRf hRl (Nat.le_of_ble_eq_true rfl) ⟨hR2, hR3⟩ (fun H2 locs2 hS2 => ?_)
  refine lv_icmp_eq (tgt := 613) hx hb d_law_210 (by decide) (fun _ => ?_) (fun cn => absurd rfl cn)
  exact kk H2 locs2 hS2
theorem L_case_3 {b L i fuel fuel2 d s1 s2 : Nat} {xs : Nat → Int32} {ls : Array Slot} {v : Int32} {h h1 h2 : E_H} {fs gs : List Value} (X : L_X p s m args c D TY b L xs sz) (hl : lv_has ls 4 [(0, .ref b), (1, .ref (sz + 0)), (2, .ref (sz + 83)), (3, .int (nI i))]) (hS : E_S D TY sz 0 s h H locs) (hi6 : i + 6 ≤ L)
    (q1 : E_call fuel d 148 (.ref 0 :: ([xs (i + 1)] : List Int32).map Value.int) h = some (some (.int v), h1, s1)) (q2 : E_call fuel2 d 181 (.ref 83 :: ([xs (i + 1)] : List Int32).map Value.int) h1 = some (some (.int v), h2, s2)) (o1 : h[0]? = some (.inr (11, fs))) (o2 : h1[83]? = some (.inr (12, gs)))
    (hRf : d + 1 ≤ R.frames) (hRl : 48 * (d + 1) ≤ R.locals) (hR1 : h1.length ≤ R.cells) (hR2 : h2.length ≤ R.cells) (hR3 : sl + s1 + s2 ≤ R.slots)
    (kk : ∀ (H1 : Heap) (locs1 : List Loc), E_S D TY sz 0 s h2 H1 locs1 → W p l e R s m args below meth c H1 locs1 h2.length (sl + s1 + s2) Q (F0 m 613 ls [])) : W p l e R s m args below meth c H locs h.length sl Q (F0 m 215 ls []) := by
  have hx := X.1
  have hb := X.2.1
  refine lv_aload_n hx hb d_law_215 rfl (lv_at hl 1 rfl) ?_
  refine L_arg (k := 1) X hl hS.2.1 (by omega) rfl d_law_216 d_law_217 d_law_218 d_law_219 d_law_220 ?_
  show W p l e R s m args below meth c H locs h.length sl Q (F0 m 221 ls ((([xs (i + 1)] : List Int32).map Value.int).reverse ++ .ref (sz + 0) :: []))
  refine L_call (M := E_m148) X hl.1 hS rfl q1 o1 (by decide) rfl (by decide +kernel) rfl l_law_28 d_law_221 hRf hRl (Nat.zero_le _) ⟨hR1, by omega⟩ (fun H1 locs1 hS1 => ?_)
  refine lv_aload_n hx hb d_law_224 rfl (lv_at hl 2 rfl) ?_
  refine L_arg (k := 1) X hl hS1.2.1 (by omega) rfl d_law_225 d_law_226 d_law_227 d_law_228 d_law_229 ?_
  show W p l e R s m args below meth c H1 locs1 h1.length (sl + s1) Q (F0 m 230 ls ((([xs (i + 1)] : List Int32).map Value.int).reverse ++ .ref (sz + 83) :: [.int v]))
  refine L_call (M := E_m181) X hl.1 hS1 rfl q2 o2 (by decide) rfl (by decide +kernel) rfl l_law_32 d_law_230 hRf hRl (Nat.le_of_ble_eq_true rfl) ⟨hR2, hR3⟩ (fun H2 locs2 hS2 => ?_)
  refine lv_icmp_eq (tgt := 613) hx hb d_law_233 (by decide) (fun _ => ?_) (fun cn => absurd rfl cn)
  exact kk H2 locs2 hS2
theorem L_case_4 {b L i fuel fuel2 d s1 s2 : Nat} {xs : Nat → Int32} {ls : Array Slot} {v : Int32} {h h1 h2 : E_H} {fs gs : List Value} (X : L_X p s m args c D TY b L xs sz) (hl : lv_has ls 4 [(0, .ref b), (1, .ref (sz + 0)), (2, .ref (sz + 83)), (3, .int (nI i))]) (hS : E_S D TY sz 0 s h H locs) (hi6 : i + 6 ≤ L)
    (q1 : E_call fuel d 149 (.ref 0 :: ([xs (i + 1)] : List Int32).map Value.int) h = some (some (.int v), h1, s1)) (q2 : E_call fuel2 d 182 (.ref 83 :: ([xs (i + 1)] : List Int32).map Value.int) h1 = some (some (.int v), h2, s2)) (o1 : h[0]? = some (.inr (11, fs))) (o2 : h1[83]? = some (.inr (12, gs)))
    (hRf : d + 1 ≤ R.frames) (hRl : 48 * (d + 1) ≤ R.locals) (hR1 : h1.length ≤ R.cells) (hR2 : h2.length ≤ R.cells) (hR3 : sl + s1 + s2 ≤ R.slots)
    (kk : ∀ (H1 : Heap) (locs1 : List Loc), E_S D TY sz 0 s h2 H1 locs1 → W p l e R s m args below meth c H1 locs1 h2.length (sl + s1 + s2) Q (F0 m 613 ls [])) : W p l e R s m args below meth c H locs h.length sl Q (F0 m 238 ls []) := by
  have hx := X.1
  have hb := X.2.1
  refine lv_aload_n hx hb d_law_238 rfl (lv_at hl 1 rfl) ?_
  refine L_arg (k := 1) X hl hS.2.1 (by omega) rfl d_law_239 d_law_240 d_law_241 d_law_242 d_law_243 ?_
  show W p l e R s m args below meth c H locs h.length sl Q (F0 m 244 ls ((([xs (i + 1)] : List Int32).map Value.int).reverse ++ .ref (sz + 0) :: []))
  refine L_call (M := E_m149) X hl.1 hS rfl q1 o1 (by decide) rfl (by decide +kernel) rfl l_law_33 d_law_244 hRf hRl (Nat.zero_le _) ⟨hR1, by omega⟩ (fun H1 locs1 hS1 => ?_)
  refine lv_aload_n hx hb d_law_247 rfl (lv_at hl 2 rfl) ?_
  refine L_arg (k := 1) X hl hS1.2.1 (by omega) rfl d_law_248 d_law_249 d_law_250 d_law_251 d_law_252 ?_
  show W p l e R s m args below meth c H1 locs1 h1.length (sl + s1) Q (F0 m 253 ls ((([xs (i + 1)] : List Int32).map Value.int).reverse ++ .ref (sz + 83) :: [.int v]))
  refine L_call (M := E_m182) X hl.1 hS1 rfl q2 o2 (by decide) rfl (by decide +kernel) rfl l_law_36 d_law_253 hRf hRl (Nat.le_of_ble_eq_true rfl) ⟨hR2, hR3⟩ (fun H2 locs2 hS2 => ?_)
  refine lv_icmp_eq (tgt := 613) hx hb d_law_256 (by decide) (fun _ => ?_) (fun cn => absurd rfl cn)
  exact kk H2 locs2 hS2
theorem L_case_5 {b L i fuel fuel2 d s1 s2 : Nat} {xs : Nat → Int32} {ls : Array Slot} {v : Int32} {h h1 h2 : E_H} {fs gs : List Value} (X : L_X p s m args c D TY b L xs sz) (hl : lv_has ls 4 [(0, .ref b), (1, .ref (sz + 0)), (2, .ref (sz + 83)), (3, .int (nI i))]) (hS : E_S D TY sz 0 s h H locs) (hi6 : i + 6 ≤ L)
    (q1 : E_call fuel d 150 (.ref 0 :: ([xs (i + 1)] : List Int32).map Value.int) h = some (some (.int v), h1, s1)) (q2 : E_call fuel2 d 183 (.ref 83 :: ([xs (i + 1)] : List Int32).map Value.int) h1 = some (some (.int v), h2, s2)) (o1 : h[0]? = some (.inr (11, fs))) (o2 : h1[83]? = some (.inr (12, gs)))
    (hRf : d + 1 ≤ R.frames) (hRl : 48 * (d + 1) ≤ R.locals) (hR1 : h1.length ≤ R.cells) (hR2 : h2.length ≤ R.cells) (hR3 : sl + s1 + s2 ≤ R.slots)
    (kk : ∀ (H1 : Heap) (locs1 : List Loc), E_S D TY sz 0 s h2 H1 locs1 → W p l e R s m args below meth c H1 locs1 h2.length (sl + s1 + s2) Q (F0 m 613 ls [])) : W p l e R s m args below meth c H locs h.length sl Q (F0 m 261 ls []) := by
  have hx := X.1
  have hb := X.2.1
  refine lv_aload_n hx hb d_law_261 rfl (lv_at hl 1 rfl) ?_
  refine L_arg (k := 1) X hl hS.2.1 (by omega) rfl d_law_262 d_law_263 d_law_264 d_law_265 d_law_266 ?_
  show W p l e R s m args below meth c H locs h.length sl Q (F0 m 267 ls ((([xs (i + 1)] : List Int32).map Value.int).reverse ++ .ref (sz + 0) :: []))
  refine L_call (M := E_m150) X hl.1 hS rfl q1 o1 (by decide) rfl (by decide +kernel) rfl l_law_37 d_law_267 hRf hRl (Nat.zero_le _) ⟨hR1, by omega⟩ (fun H1 locs1 hS1 => ?_)
  refine lv_aload_n hx hb d_law_270 rfl (lv_at hl 2 rfl) ?_
  refine L_arg (k := 1) X hl hS1.2.1 (by omega) rfl d_law_271 d_law_272 d_law_273 d_law_274 d_law_275 ?_
  show W p l e R s m args below meth c H1 locs1 h1.length (sl + s1) Q (F0 m 276 ls ((([xs (i + 1)] : List Int32).map Value.int).reverse ++ .ref (sz + 83) :: [.int v]))
  refine L_call (M := E_m183) X hl.1 hS1 rfl q2 o2 (by decide) rfl (by decide +kernel) rfl l_law_40 d_law_276 hRf hRl (Nat.le_of_ble_eq_true rfl) ⟨hR2, hR3⟩ (fun H2 locs2 hS2 => ?_)
  refine lv_icmp_eq (tgt := 613) hx hb d_law_279 (by decide) (fun _ => ?_) (fun cn => absurd rfl cn)
  exact kk H2 locs2 hS2
theorem L_case_6 {b L i fuel fuel2 d s1 s2 : Nat} {xs : Nat → Int32} {ls : Array Slot} {v : Int32} {h h1 h2 : E_H} {fs gs : List Value} (X : L_X p s m args c D TY b L xs sz) (hl : lv_has ls 4 [(0, .ref b), (1, .ref (sz + 0)), (2, .ref (sz + 83)), (3, .int (nI i))]) (hS : E_S D TY sz 0 s h H locs) (hi6 : i + 6 ≤ L)
    (q1 : E_call fuel d 151 (.ref 0 :: ([xs (i + 1), xs (i + 2)] : List Int32).map Value.int) h = some (some (.int v), h1, s1)) (q2 : E_call fuel2 d 184 (.ref 83 :: ([xs (i + 1), xs (i + 2)] : List Int32).map Value.int) h1 = some (some (.int v), h2, s2)) (o1 : h[0]? = some (.inr (11, fs))) (o2 : h1[83]? = some (.inr (12, gs)))
    (hRf : d + 1 ≤ R.frames) (hRl : 48 * (d + 1) ≤ R.locals) (hR1 : h1.length ≤ R.cells) (hR2 : h2.length ≤ R.cells) (hR3 : sl + s1 + s2 ≤ R.slots)
    (kk : ∀ (H1 : Heap) (locs1 : List Loc), E_S D TY sz 0 s h2 H1 locs1 → W p l e R s m args below meth c H1 locs1 h2.length (sl + s1 + s2) Q (F0 m 613 ls [])) : W p l e R s m args below meth c H locs h.length sl Q (F0 m 284 ls []) := by
  have hx := X.1
  have hb := X.2.1
  refine lv_aload_n hx hb d_law_284 rfl (lv_at hl 1 rfl) ?_
  refine L_arg (k := 1) X hl hS.2.1 (by omega) rfl d_law_285 d_law_286 d_law_287 d_law_288 d_law_289 ?_
  refine L_arg (k := 2) X hl hS.2.1 (by omega) rfl d_law_290 d_law_291 d_law_292 d_law_293 d_law_294 ?_
  show W p l e R s m args below meth c H locs h.length sl Q (F0 m 295 ls ((([xs (i + 1), xs (i + 2)] : List Int32).map Value.int).reverse ++ .ref (sz + 0) :: []))
  refine L_call (M := E_m151) X hl.1 hS rfl q1 o1 (by decide) rfl (by decide +kernel) rfl l_law_41 d_law_295 hRf hRl (Nat.zero_le _) ⟨hR1, by omega⟩ (fun H1 locs1 hS1 => ?_)
  refine lv_aload_n hx hb d_law_298 rfl (lv_at hl 2 rfl) ?_
  refine L_arg (k := 1) X hl hS1.2.1 (by omega) rfl d_law_299 d_law_300 d_law_301 d_law_302 d_law_303 ?_
  refine L_arg (k := 2) X hl hS1.2.1 (by omega) rfl d_law_304 d_law_305 d_law_306 d_law_307 d_law_308 ?_
  show W p l e R s m args below meth c H1 locs1 h1.length (sl + s1) Q (F0 m 309 ls ((([xs (i + 1), xs (i + 2)] : List Int32).map Value.int).reverse ++ .ref (sz + 83) :: [.int v]))
  refine L_call (M := E_m184) X hl.1 hS1 rfl q2 o2 (by decide) rfl (by decide +kernel) rfl l_law_45 d_law_309 hRf hRl (Nat.le_of_ble_eq_true rfl) ⟨hR2, hR3⟩ (fun H2 locs2 hS2 => ?_)
  refine lv_icmp_eq (tgt := 613) hx hb d_law_312 (by decide) (fun _ => ?_) (fun cn => absurd rfl cn)
  exact kk H2 locs2 hS2
theorem L_case_7 {b L i fuel fuel2 d s1 s2 : Nat} {xs : Nat → Int32} {ls : Array Slot} {v : Int32} {h h1 h2 : E_H} {fs gs : List Value} (X : L_X p s m args c D TY b L xs sz) (hl : lv_has ls 4 [(0, .ref b), (1, .ref (sz + 0)), (2, .ref (sz + 83)), (3, .int (nI i))]) (hS : E_S D TY sz 0 s h H locs) (hi6 : i + 6 ≤ L)
    (q1 : E_call fuel d 152 (.ref 0 :: ([xs (i + 1), xs (i + 2)] : List Int32).map Value.int) h = some (some (.int v), h1, s1)) (q2 : E_call fuel2 d 186 (.ref 83 :: ([xs (i + 1), xs (i + 2)] : List Int32).map Value.int) h1 = some (some (.int v), h2, s2)) (o1 : h[0]? = some (.inr (11, fs))) (o2 : h1[83]? = some (.inr (12, gs)))
    (hRf : d + 1 ≤ R.frames) (hRl : 48 * (d + 1) ≤ R.locals) (hR1 : h1.length ≤ R.cells) (hR2 : h2.length ≤ R.cells) (hR3 : sl + s1 + s2 ≤ R.slots)
    (kk : ∀ (H1 : Heap) (locs1 : List Loc), E_S D TY sz 0 s h2 H1 locs1 → W p l e R s m args below meth c H1 locs1 h2.length (sl + s1 + s2) Q (F0 m 613 ls [])) : W p l e R s m args below meth c H locs h.length sl Q (F0 m 317 ls []) := by
  have hx := X.1
  have hb := X.2.1
  refine lv_aload_n hx hb d_law_317 rfl (lv_at hl 1 rfl) ?_
  refine L_arg (k := 1) X hl hS.2.1 (by omega) rfl d_law_318 d_law_319 d_law_320 d_law_321 d_law_322 ?_
  refine L_arg (k := 2) X hl hS.2.1 (by omega) rfl d_law_323 d_law_324 d_law_325 d_law_326 d_law_327 ?_
  show W p l e R s m args below meth c H locs h.length sl Q (F0 m 328 ls ((([xs (i + 1), xs (i + 2)] : List Int32).map Value.int).reverse ++ .ref (sz + 0) :: []))
  refine L_call (M := E_m152) X hl.1 hS rfl q1 o1 (by decide) rfl (by decide +kernel) rfl l_law_46 d_law_328 hRf hRl (Nat.zero_le _) ⟨hR1, by omega⟩ (fun H1 locs1 hS1 => ?_)
  refine lv_aload_n hx hb d_law_331 rfl (lv_at hl 2 rfl) ?_
  refine L_arg (k := 1) X hl hS1.2.1 (by omega) rfl d_law_332 d_law_333 d_law_334 d_law_335 d_law_336 ?_
  refine L_arg (k := 2) X hl hS1.2.1 (by omega) rfl d_law_337 d_law_338 d_law_339 d_law_340 d_law_341 ?_
  show W p l e R s m args below meth c H1 locs1 h1.length (sl + s1) Q (F0 m 342 ls ((([xs (i + 1), xs (i + 2)] : List Int32).map Value.int).reverse ++ .ref (sz + 83) :: [.int v]))
  refine L_call (M := E_m186) X hl.1 hS1 rfl q2 o2 (by decide) rfl (by decide +kernel) rfl l_law_49 d_law_342 hRf hRl (Nat.le_of_ble_eq_true rfl) ⟨hR2, hR3⟩ (fun H2 locs2 hS2 => ?_)
  refine lv_icmp_eq (tgt := 613) hx hb d_law_345 (by decide) (fun _ => ?_) (fun cn => absurd rfl cn)
  exact kk H2 locs2 hS2
theorem L_case_8 {b L i fuel fuel2 d s1 s2 : Nat} {xs : Nat → Int32} {ls : Array Slot} {v : Int32} {h h1 h2 : E_H} {fs gs : List Value} (X : L_X p s m args c D TY b L xs sz) (hl : lv_has ls 4 [(0, .ref b), (1, .ref (sz + 0)), (2, .ref (sz + 83)), (3, .int (nI i))]) (hS : E_S D TY sz 0 s h H locs) (hi6 : i + 6 ≤ L)
    (q1 : E_call fuel d 153 (.ref 0 :: ([(if xs (i + 1) = 0 then 0 else 1)] : List Int32).map Value.int) h = some (some (.int v), h1, s1)) (q2 : E_call fuel2 d 276 (.ref 83 :: ([(if xs (i + 1) = 0 then 0 else 1)] : List Int32).map Value.int) h1 = some (some (.int v), h2, s2)) (o1 : h[0]? = some (.inr (11, fs))) (o2 : h1[83]? = some (.inr (12, gs)))
    (hRf : d + 1 ≤ R.frames) (hRl : 48 * (d + 1) ≤ R.locals) (hR1 : h1.length ≤ R.cells) (hR2 : h2.length ≤ R.cells) (hR3 : sl + s1 + s2 ≤ R.slots)
    (kk : ∀ (H1 : Heap) (locs1 : List Loc), E_S D TY sz 0 s h2 H1 locs1 → W p l e R s m args below meth c H1 locs1 h2.length (sl + s1 + s2) Q (F0 m 613 ls [])) : W p l e R s m args below meth c H locs h.length sl Q (F0 m 350 ls []) := by
  have hx := X.1
  have hb := X.2.1
  refine lv_aload_n hx hb d_law_350 rfl (lv_at hl 1 rfl) ?_
  refine L_arg (k := 1) X hl hS.2.1 (by omega) rfl d_law_351 d_law_352 d_law_353 d_law_354 d_law_355 ?_
  suffices hsf : ∀ (z : Int32), z = (if xs (i + 1) = 0 then 0 else 1) → W p l e R s m args below meth c H locs h.length sl Q (F0 m 364 ls (.int z :: [.ref (sz + 0)])) by
    refine lv_if_eq (tgt := 363) hx hb d_law_356 (by decide) (fun c0 => ?_) (fun c0 => ?_)
    · refine lv_iconst (v := 0) hx hb d_law_363 (by decide) ?_
      exact hsf 0 (by rw [if_pos c0])
    · refine lv_iconst (v := 1) hx hb d_law_359 (by decide) ?_
      refine lv_goto (tgt := 364) hx hb d_law_360 (by decide) ?_
      exact hsf 1 (by rw [if_neg c0])
  intro z hz
  subst hz
  show W p l e R s m args below meth c H locs h.length sl Q (F0 m 364 ls ((([(if xs (i + 1) = 0 then 0 else 1)] : List Int32).map Value.int).reverse ++ .ref (sz + 0) :: []))
  refine L_call (M := E_m153) X hl.1 hS rfl q1 o1 (by decide) rfl (by decide +kernel) rfl l_law_50 d_law_364 hRf hRl (Nat.zero_le _) ⟨hR1, by omega⟩ (fun H1 locs1 hS1 => ?_)
  refine lv_aload_n hx hb d_law_367 rfl (lv_at hl 2 rfl) ?_
  refine L_arg (k := 1) X hl hS1.2.1 (by omega) rfl d_law_368 d_law_369 d_law_370 d_law_371 d_law_372 ?_
  suffices hsf : ∀ (z : Int32), z = (if xs (i + 1) = 0 then 0 else 1) → W p l e R s m args below meth c H1 locs1 h1.length (sl + s1) Q (F0 m 381 ls (.int z :: [.ref (sz + 83), .int v])) by
    refine lv_if_eq (tgt := 380) hx hb d_law_373 (by decide) (fun c0 => ?_) (fun c0 => ?_)
    · refine lv_iconst (v := 0) hx hb d_law_380 (by decide) ?_
      exact hsf 0 (by rw [if_pos c0])
    · refine lv_iconst (v := 1) hx hb d_law_376 (by decide) ?_
      refine lv_goto (tgt := 381) hx hb d_law_377 (by decide) ?_
      exact hsf 1 (by rw [if_neg c0])
  intro z hz
  subst hz
  show W p l e R s m args below meth c H1 locs1 h1.length (sl + s1) Q (F0 m 381 ls ((([(if xs (i + 1) = 0 then 0 else 1)] : List Int32).map Value.int).reverse ++ .ref (sz + 83) :: [.int v]))
  refine L_call (M := E_m276) X hl.1 hS1 rfl q2 o2 (by decide) rfl (by decide +kernel) rfl l_law_54 d_law_381 hRf hRl (Nat.le_of_ble_eq_true rfl) ⟨hR2, hR3⟩ (fun H2 locs2 hS2 => ?_)
  refine lv_icmp_eq (tgt := 613) hx hb d_law_384 (by decide) (fun _ => ?_) (fun cn => absurd rfl cn)
  exact kk H2 locs2 hS2
theorem L_case_9 {b L i fuel fuel2 d s1 s2 : Nat} {xs : Nat → Int32} {ls : Array Slot} {v : Int32} {h h1 h2 : E_H} {fs gs : List Value} (X : L_X p s m args c D TY b L xs sz) (hl : lv_has ls 4 [(0, .ref b), (1, .ref (sz + 0)), (2, .ref (sz + 83)), (3, .int (nI i))]) (hS : E_S D TY sz 0 s h H locs) (hi6 : i + 6 ≤ L)
    (q1 : E_call fuel d 154 (.ref 0 :: ([xs (i + 1)] : List Int32).map Value.int) h = some (some (.int v), h1, s1)) (q2 : E_call fuel2 d 277 (.ref 83 :: ([xs (i + 1)] : List Int32).map Value.int) h1 = some (some (.int v), h2, s2)) (o1 : h[0]? = some (.inr (11, fs))) (o2 : h1[83]? = some (.inr (12, gs)))
    (hRf : d + 1 ≤ R.frames) (hRl : 48 * (d + 1) ≤ R.locals) (hR1 : h1.length ≤ R.cells) (hR2 : h2.length ≤ R.cells) (hR3 : sl + s1 + s2 ≤ R.slots)
    (kk : ∀ (H1 : Heap) (locs1 : List Loc), E_S D TY sz 0 s h2 H1 locs1 → W p l e R s m args below meth c H1 locs1 h2.length (sl + s1 + s2) Q (F0 m 613 ls [])) : W p l e R s m args below meth c H locs h.length sl Q (F0 m 389 ls []) := by
  have hx := X.1
  have hb := X.2.1
  refine lv_aload_n hx hb d_law_389 rfl (lv_at hl 1 rfl) ?_
  refine L_arg (k := 1) X hl hS.2.1 (by omega) rfl d_law_390 d_law_391 d_law_392 d_law_393 d_law_394 ?_
  show W p l e R s m args below meth c H locs h.length sl Q (F0 m 395 ls ((([xs (i + 1)] : List Int32).map Value.int).reverse ++ .ref (sz + 0) :: []))
  refine L_call (M := E_m154) X hl.1 hS rfl q1 o1 (by decide) rfl (by decide +kernel) rfl l_law_55 d_law_395 hRf hRl (Nat.zero_le _) ⟨hR1, by omega⟩ (fun H1 locs1 hS1 => ?_)
  refine lv_aload_n hx hb d_law_398 rfl (lv_at hl 2 rfl) ?_
  refine L_arg (k := 1) X hl hS1.2.1 (by omega) rfl d_law_399 d_law_400 d_law_401 d_law_402 d_law_403 ?_
  show W p l e R s m args below meth c H1 locs1 h1.length (sl + s1) Q (F0 m 404 ls ((([xs (i + 1)] : List Int32).map Value.int).reverse ++ .ref (sz + 83) :: [.int v]))
  refine L_call (M := E_m277) X hl.1 hS1 rfl q2 o2 (by decide) rfl (by decide +kernel) rfl l_law_58 d_law_404 hRf hRl (Nat.le_of_ble_eq_true rfl) ⟨hR2, hR3⟩ (fun H2 locs2 hS2 => ?_)
  refine lv_icmp_eq (tgt := 613) hx hb d_law_407 (by decide) (fun _ => ?_) (fun cn => absurd rfl cn)
  exact kk H2 locs2 hS2
theorem L_case_10 {b L i fuel fuel2 d s1 s2 : Nat} {xs : Nat → Int32} {ls : Array Slot} {v : Int32} {h h1 h2 : E_H} {fs gs : List Value} (X : L_X p s m args c D TY b L xs sz) (hl : lv_has ls 4 [(0, .ref b), (1, .ref (sz + 0)), (2, .ref (sz + 83)), (3, .int (nI i))]) (hS : E_S D TY sz 0 s h H locs) (hi6 : i + 6 ≤ L)
    (q1 : E_call fuel d 155 (.ref 0 :: ([xs (i + 1), xs (i + 2)] : List Int32).map Value.int) h = some (some (.int v), h1, s1)) (q2 : E_call fuel2 d 278 (.ref 83 :: ([xs (i + 1), xs (i + 2)] : List Int32).map Value.int) h1 = some (some (.int v), h2, s2)) (o1 : h[0]? = some (.inr (11, fs))) (o2 : h1[83]? = some (.inr (12, gs)))
    (hRf : d + 1 ≤ R.frames) (hRl : 48 * (d + 1) ≤ R.locals) (hR1 : h1.length ≤ R.cells) (hR2 : h2.length ≤ R.cells) (hR3 : sl + s1 + s2 ≤ R.slots)
    (kk : ∀ (H1 : Heap) (locs1 : List Loc), E_S D TY sz 0 s h2 H1 locs1 → W p l e R s m args below meth c H1 locs1 h2.length (sl + s1 + s2) Q (F0 m 613 ls [])) : W p l e R s m args below meth c H locs h.length sl Q (F0 m 412 ls []) := by
  have hx := X.1
  have hb := X.2.1
  refine lv_aload_n hx hb d_law_412 rfl (lv_at hl 1 rfl) ?_
  refine L_arg (k := 1) X hl hS.2.1 (by omega) rfl d_law_413 d_law_414 d_law_415 d_law_416 d_law_417 ?_
  refine L_arg (k := 2) X hl hS.2.1 (by omega) rfl d_law_418 d_law_419 d_law_420 d_law_421 d_law_422 ?_
  show W p l e R s m args below meth c H locs h.length sl Q (F0 m 423 ls ((([xs (i + 1), xs (i + 2)] : List Int32).map Value.int).reverse ++ .ref (sz + 0) :: []))
  refine L_call (M := E_m155) X hl.1 hS rfl q1 o1 (by decide) rfl (by decide +kernel) rfl l_law_59 d_law_423 hRf hRl (Nat.zero_le _) ⟨hR1, by omega⟩ (fun H1 locs1 hS1 => ?_)
  refine lv_aload_n hx hb d_law_426 rfl (lv_at hl 2 rfl) ?_
  refine L_arg (k := 1) X hl hS1.2.1 (by omega) rfl d_law_427 d_law_428 d_law_429 d_law_430 d_law_431 ?_
  refine L_arg (k := 2) X hl hS1.2.1 (by omega) rfl d_law_432 d_law_433 d_law_434 d_law_435 d_law_436 ?_
  show W p l e R s m args below meth c H1 locs1 h1.length (sl + s1) Q (F0 m 437 ls ((([xs (i + 1), xs (i + 2)] : List Int32).map Value.int).reverse ++ .ref (sz + 83) :: [.int v]))
  refine L_call (M := E_m278) X hl.1 hS1 rfl q2 o2 (by decide) rfl (by decide +kernel) rfl l_law_62 d_law_437 hRf hRl (Nat.le_of_ble_eq_true rfl) ⟨hR2, hR3⟩ (fun H2 locs2 hS2 => ?_)
  refine lv_icmp_eq (tgt := 613) hx hb d_law_440 (by decide) (fun _ => ?_) (fun cn => absurd rfl cn)
  exact kk H2 locs2 hS2
theorem L_case_11 {b L i fuel fuel2 d s1 s2 : Nat} {xs : Nat → Int32} {ls : Array Slot} {v : Int32} {h h1 h2 : E_H} {fs gs : List Value} (X : L_X p s m args c D TY b L xs sz) (hl : lv_has ls 4 [(0, .ref b), (1, .ref (sz + 0)), (2, .ref (sz + 83)), (3, .int (nI i))]) (hS : E_S D TY sz 0 s h H locs) (hi6 : i + 6 ≤ L)
    (q1 : E_call fuel d 156 (.ref 0 :: ([xs (i + 1)] : List Int32).map Value.int) h = some (some (.int v), h1, s1)) (q2 : E_call fuel2 d 279 (.ref 83 :: ([xs (i + 1)] : List Int32).map Value.int) h1 = some (some (.int v), h2, s2)) (o1 : h[0]? = some (.inr (11, fs))) (o2 : h1[83]? = some (.inr (12, gs)))
    (hRf : d + 1 ≤ R.frames) (hRl : 48 * (d + 1) ≤ R.locals) (hR1 : h1.length ≤ R.cells) (hR2 : h2.length ≤ R.cells) (hR3 : sl + s1 + s2 ≤ R.slots)
    (kk : ∀ (H1 : Heap) (locs1 : List Loc), E_S D TY sz 0 s h2 H1 locs1 → W p l e R s m args below meth c H1 locs1 h2.length (sl + s1 + s2) Q (F0 m 613 ls [])) : W p l e R s m args below meth c H locs h.length sl Q (F0 m 445 ls []) := by
  have hx := X.1
  have hb := X.2.1
  refine lv_aload_n hx hb d_law_445 rfl (lv_at hl 1 rfl) ?_
  refine L_arg (k := 1) X hl hS.2.1 (by omega) rfl d_law_446 d_law_447 d_law_448 d_law_449 d_law_450 ?_
  show W p l e R s m args below meth c H locs h.length sl Q (F0 m 451 ls ((([xs (i + 1)] : List Int32).map Value.int).reverse ++ .ref (sz + 0) :: []))
  refine L_call (M := E_m156) X hl.1 hS rfl q1 o1 (by decide) rfl (by decide +kernel) rfl l_law_63 d_law_451 hRf hRl (Nat.zero_le _) ⟨hR1, by omega⟩ (fun H1 locs1 hS1 => ?_)
  refine lv_aload_n hx hb d_law_454 rfl (lv_at hl 2 rfl) ?_
  refine L_arg (k := 1) X hl hS1.2.1 (by omega) rfl d_law_455 d_law_456 d_law_457 d_law_458 d_law_459 ?_
  show W p l e R s m args below meth c H1 locs1 h1.length (sl + s1) Q (F0 m 460 ls ((([xs (i + 1)] : List Int32).map Value.int).reverse ++ .ref (sz + 83) :: [.int v]))
  refine L_call (M := E_m279) X hl.1 hS1 rfl q2 o2 (by decide) rfl (by decide +kernel) rfl l_law_66 d_law_460 hRf hRl (Nat.le_of_ble_eq_true rfl) ⟨hR2, hR3⟩ (fun H2 locs2 hS2 => ?_)
  refine lv_icmp_eq (tgt := 613) hx hb d_law_463 (by decide) (fun _ => ?_) (fun cn => absurd rfl cn)
  exact kk H2 locs2 hS2
theorem L_case_12 {b L i fuel fuel2 d s1 s2 : Nat} {xs : Nat → Int32} {ls : Array Slot} {v : Int32} {h h1 h2 : E_H} {fs gs : List Value} (X : L_X p s m args c D TY b L xs sz) (hl : lv_has ls 4 [(0, .ref b), (1, .ref (sz + 0)), (2, .ref (sz + 83)), (3, .int (nI i))]) (hS : E_S D TY sz 0 s h H locs) (hi6 : i + 6 ≤ L)
    (q1 : E_call fuel d 157 (.ref 0 :: ([xs (i + 1)] : List Int32).map Value.int) h = some (some (.int v), h1, s1)) (q2 : E_call fuel2 d 280 (.ref 83 :: ([xs (i + 1)] : List Int32).map Value.int) h1 = some (some (.int v), h2, s2)) (o1 : h[0]? = some (.inr (11, fs))) (o2 : h1[83]? = some (.inr (12, gs)))
    (hRf : d + 1 ≤ R.frames) (hRl : 48 * (d + 1) ≤ R.locals) (hR1 : h1.length ≤ R.cells) (hR2 : h2.length ≤ R.cells) (hR3 : sl + s1 + s2 ≤ R.slots)
    (kk : ∀ (H1 : Heap) (locs1 : List Loc), E_S D TY sz 0 s h2 H1 locs1 → W p l e R s m args below meth c H1 locs1 h2.length (sl + s1 + s2) Q (F0 m 613 ls [])) : W p l e R s m args below meth c H locs h.length sl Q (F0 m 468 ls []) := by
  have hx := X.1
  have hb := X.2.1
  refine lv_aload_n hx hb d_law_468 rfl (lv_at hl 1 rfl) ?_
  refine L_arg (k := 1) X hl hS.2.1 (by omega) rfl d_law_469 d_law_470 d_law_471 d_law_472 d_law_473 ?_
  show W p l e R s m args below meth c H locs h.length sl Q (F0 m 474 ls ((([xs (i + 1)] : List Int32).map Value.int).reverse ++ .ref (sz + 0) :: []))
  refine L_call (M := E_m157) X hl.1 hS rfl q1 o1 (by decide) rfl (by decide +kernel) rfl l_law_67 d_law_474 hRf hRl (Nat.zero_le _) ⟨hR1, by omega⟩ (fun H1 locs1 hS1 => ?_)
  refine lv_aload_n hx hb d_law_477 rfl (lv_at hl 2 rfl) ?_
  refine L_arg (k := 1) X hl hS1.2.1 (by omega) rfl d_law_478 d_law_479 d_law_480 d_law_481 d_law_482 ?_
  show W p l e R s m args below meth c H1 locs1 h1.length (sl + s1) Q (F0 m 483 ls ((([xs (i + 1)] : List Int32).map Value.int).reverse ++ .ref (sz + 83) :: [.int v]))
  refine L_call (M := E_m280) X hl.1 hS1 rfl q2 o2 (by decide) rfl (by decide +kernel) rfl l_law_70 d_law_483 hRf hRl (Nat.le_of_ble_eq_true rfl) ⟨hR2, hR3⟩ (fun H2 locs2 hS2 => ?_)
  refine lv_icmp_eq (tgt := 613) hx hb d_law_486 (by decide) (fun _ => ?_) (fun cn => absurd rfl cn)
  exact kk H2 locs2 hS2
theorem L_case_13 {b L i fuel fuel2 d s1 s2 : Nat} {xs : Nat → Int32} {ls : Array Slot} {v : Int32} {h h1 h2 : E_H} {fs gs : List Value} (X : L_X p s m args c D TY b L xs sz) (hl : lv_has ls 4 [(0, .ref b), (1, .ref (sz + 0)), (2, .ref (sz + 83)), (3, .int (nI i))]) (hS : E_S D TY sz 0 s h H locs) (hi6 : i + 6 ≤ L)
    (q1 : E_call fuel d 158 (.ref 0 :: ([xs (i + 1), xs (i + 2)] : List Int32).map Value.int) h = some (some (.int v), h1, s1)) (q2 : E_call fuel2 d 281 (.ref 83 :: ([xs (i + 1), xs (i + 2)] : List Int32).map Value.int) h1 = some (some (.int v), h2, s2)) (o1 : h[0]? = some (.inr (11, fs))) (o2 : h1[83]? = some (.inr (12, gs)))
    (hRf : d + 1 ≤ R.frames) (hRl : 48 * (d + 1) ≤ R.locals) (hR1 : h1.length ≤ R.cells) (hR2 : h2.length ≤ R.cells) (hR3 : sl + s1 + s2 ≤ R.slots)
    (kk : ∀ (H1 : Heap) (locs1 : List Loc), E_S D TY sz 0 s h2 H1 locs1 → W p l e R s m args below meth c H1 locs1 h2.length (sl + s1 + s2) Q (F0 m 613 ls [])) : W p l e R s m args below meth c H locs h.length sl Q (F0 m 491 ls []) := by
  have hx := X.1
  have hb := X.2.1
  refine lv_aload_n hx hb d_law_491 rfl (lv_at hl 1 rfl) ?_
  refine L_arg (k := 1) X hl hS.2.1 (by omega) rfl d_law_492 d_law_493 d_law_494 d_law_495 d_law_496 ?_
  refine L_arg (k := 2) X hl hS.2.1 (by omega) rfl d_law_497 d_law_498 d_law_499 d_law_500 d_law_501 ?_
  show W p l e R s m args below meth c H locs h.length sl Q (F0 m 502 ls ((([xs (i + 1), xs (i + 2)] : List Int32).map Value.int).reverse ++ .ref (sz + 0) :: []))
  refine L_call (M := E_m158) X hl.1 hS rfl q1 o1 (by decide) rfl (by decide +kernel) rfl l_law_71 d_law_502 hRf hRl (Nat.zero_le _) ⟨hR1, by omega⟩ (fun H1 locs1 hS1 => ?_)
  refine lv_aload_n hx hb d_law_505 rfl (lv_at hl 2 rfl) ?_
  refine L_arg (k := 1) X hl hS1.2.1 (by omega) rfl d_law_506 d_law_507 d_law_508 d_law_509 d_law_510 ?_
  refine L_arg (k := 2) X hl hS1.2.1 (by omega) rfl d_law_511 d_law_512 d_law_513 d_law_514 d_law_515 ?_
  show W p l e R s m args below meth c H1 locs1 h1.length (sl + s1) Q (F0 m 516 ls ((([xs (i + 1), xs (i + 2)] : List Int32).map Value.int).reverse ++ .ref (sz + 83) :: [.int v]))
  refine L_call (M := E_m281) X hl.1 hS1 rfl q2 o2 (by decide) rfl (by decide +kernel) rfl l_law_74 d_law_516 hRf hRl (Nat.le_of_ble_eq_true rfl) ⟨hR2, hR3⟩ (fun H2 locs2 hS2 => ?_)
  refine lv_icmp_eq (tgt := 613) hx hb d_law_519 (by decide) (fun _ => ?_) (fun cn => absurd rfl cn)
  exact kk H2 locs2 hS2
theorem L_case_14 {b L i fuel fuel2 d s1 s2 : Nat} {xs : Nat → Int32} {ls : Array Slot} {v : Int32} {h h1 h2 : E_H} {fs gs : List Value} (X : L_X p s m args c D TY b L xs sz) (hl : lv_has ls 4 [(0, .ref b), (1, .ref (sz + 0)), (2, .ref (sz + 83)), (3, .int (nI i))]) (hS : E_S D TY sz 0 s h H locs) (hi6 : i + 6 ≤ L)
    (q1 : E_call fuel d 159 (.ref 0 :: ([xs (i + 1)] : List Int32).map Value.int) h = some (some (.int v), h1, s1)) (q2 : E_call fuel2 d 282 (.ref 83 :: ([xs (i + 1)] : List Int32).map Value.int) h1 = some (some (.int v), h2, s2)) (o1 : h[0]? = some (.inr (11, fs))) (o2 : h1[83]? = some (.inr (12, gs)))
    (hRf : d + 1 ≤ R.frames) (hRl : 48 * (d + 1) ≤ R.locals) (hR1 : h1.length ≤ R.cells) (hR2 : h2.length ≤ R.cells) (hR3 : sl + s1 + s2 ≤ R.slots)
    (kk : ∀ (H1 : Heap) (locs1 : List Loc), E_S D TY sz 0 s h2 H1 locs1 → W p l e R s m args below meth c H1 locs1 h2.length (sl + s1 + s2) Q (F0 m 613 ls [])) : W p l e R s m args below meth c H locs h.length sl Q (F0 m 524 ls []) := by
  have hx := X.1
  have hb := X.2.1
  refine lv_aload_n hx hb d_law_524 rfl (lv_at hl 1 rfl) ?_
  refine L_arg (k := 1) X hl hS.2.1 (by omega) rfl d_law_525 d_law_526 d_law_527 d_law_528 d_law_529 ?_
  show W p l e R s m args below meth c H locs h.length sl Q (F0 m 530 ls ((([xs (i + 1)] : List Int32).map Value.int).reverse ++ .ref (sz + 0) :: []))
  refine L_call (M := E_m159) X hl.1 hS rfl q1 o1 (by decide) rfl (by decide +kernel) rfl l_law_75 d_law_530 hRf hRl (Nat.zero_le _) ⟨hR1, by omega⟩ (fun H1 locs1 hS1 => ?_)
  refine lv_aload_n hx hb d_law_533 rfl (lv_at hl 2 rfl) ?_
  refine L_arg (k := 1) X hl hS1.2.1 (by omega) rfl d_law_534 d_law_535 d_law_536 d_law_537 d_law_538 ?_
  show W p l e R s m args below meth c H1 locs1 h1.length (sl + s1) Q (F0 m 539 ls ((([xs (i + 1)] : List Int32).map Value.int).reverse ++ .ref (sz + 83) :: [.int v]))
  refine L_call (M := E_m282) X hl.1 hS1 rfl q2 o2 (by decide) rfl (by decide +kernel) rfl l_law_78 d_law_539 hRf hRl (Nat.le_of_ble_eq_true rfl) ⟨hR2, hR3⟩ (fun H2 locs2 hS2 => ?_)
  refine lv_icmp_eq (tgt := 613) hx hb d_law_542 (by decide) (fun _ => ?_) (fun cn => absurd rfl cn)
  exact kk H2 locs2 hS2
theorem L_case_15 {b L i fuel fuel2 d s1 s2 : Nat} {xs : Nat → Int32} {ls : Array Slot} {v : Int32} {h h1 h2 : E_H} {fs gs : List Value} (X : L_X p s m args c D TY b L xs sz) (hl : lv_has ls 4 [(0, .ref b), (1, .ref (sz + 0)), (2, .ref (sz + 83)), (3, .int (nI i))]) (hS : E_S D TY sz 0 s h H locs) (hi6 : i + 6 ≤ L)
    (q1 : E_call fuel d 160 (.ref 0 :: ([xs (i + 1), xs (i + 2), xs (i + 3)] : List Int32).map Value.int) h = some (some (.int v), h1, s1)) (q2 : E_call fuel2 d 283 (.ref 83 :: ([xs (i + 1), xs (i + 2), xs (i + 3)] : List Int32).map Value.int) h1 = some (some (.int v), h2, s2)) (o1 : h[0]? = some (.inr (11, fs))) (o2 : h1[83]? = some (.inr (12, gs)))
    (hRf : d + 1 ≤ R.frames) (hRl : 48 * (d + 1) ≤ R.locals) (hR1 : h1.length ≤ R.cells) (hR2 : h2.length ≤ R.cells) (hR3 : sl + s1 + s2 ≤ R.slots)
    (kk : ∀ (H1 : Heap) (locs1 : List Loc), E_S D TY sz 0 s h2 H1 locs1 → W p l e R s m args below meth c H1 locs1 h2.length (sl + s1 + s2) Q (F0 m 613 ls [])) : W p l e R s m args below meth c H locs h.length sl Q (F0 m 547 ls []) := by
  have hx := X.1
  have hb := X.2.1
  refine lv_aload_n hx hb d_law_547 rfl (lv_at hl 1 rfl) ?_
  refine L_arg (k := 1) X hl hS.2.1 (by omega) rfl d_law_548 d_law_549 d_law_550 d_law_551 d_law_552 ?_
  refine L_arg (k := 2) X hl hS.2.1 (by omega) rfl d_law_553 d_law_554 d_law_555 d_law_556 d_law_557 ?_
  refine L_arg (k := 3) X hl hS.2.1 (by omega) rfl d_law_558 d_law_559 d_law_560 d_law_561 d_law_562 ?_
  show W p l e R s m args below meth c H locs h.length sl Q (F0 m 563 ls ((([xs (i + 1), xs (i + 2), xs (i + 3)] : List Int32).map Value.int).reverse ++ .ref (sz + 0) :: []))
  refine L_call (M := E_m160) X hl.1 hS rfl q1 o1 (by decide) rfl (by decide +kernel) rfl l_law_79 d_law_563 hRf hRl (Nat.zero_le _) ⟨hR1, by omega⟩ (fun H1 locs1 hS1 => ?_)
  refine lv_aload_n hx hb d_law_566 rfl (lv_at hl 2 rfl) ?_
  refine L_arg (k := 1) X hl hS1.2.1 (by omega) rfl d_law_567 d_law_568 d_law_569 d_law_570 d_law_571 ?_
  refine L_arg (k := 2) X hl hS1.2.1 (by omega) rfl d_law_572 d_law_573 d_law_574 d_law_575 d_law_576 ?_
  refine L_arg (k := 3) X hl hS1.2.1 (by omega) rfl d_law_577 d_law_578 d_law_579 d_law_580 d_law_581 ?_
  show W p l e R s m args below meth c H1 locs1 h1.length (sl + s1) Q (F0 m 582 ls ((([xs (i + 1), xs (i + 2), xs (i + 3)] : List Int32).map Value.int).reverse ++ .ref (sz + 83) :: [.int v]))
  refine L_call (M := E_m283) X hl.1 hS1 rfl q2 o2 (by decide) rfl (by decide +kernel) rfl l_law_83 d_law_582 hRf hRl (Nat.le_of_ble_eq_true rfl) ⟨hR2, hR3⟩ (fun H2 locs2 hS2 => ?_)
  refine lv_icmp_eq (tgt := 613) hx hb d_law_585 (by decide) (fun _ => ?_) (fun cn => absurd rfl cn)
  exact kk H2 locs2 hS2
theorem L_case_16 {b L i fuel fuel2 d s1 s2 : Nat} {xs : Nat → Int32} {ls : Array Slot} {v : Int32} {h h1 h2 : E_H} {fs gs : List Value} (X : L_X p s m args c D TY b L xs sz) (hl : lv_has ls 4 [(0, .ref b), (1, .ref (sz + 0)), (2, .ref (sz + 83)), (3, .int (nI i))]) (hS : E_S D TY sz 0 s h H locs) (hi6 : i + 6 ≤ L)
    (q1 : E_call fuel d 161 (.ref 0 :: ([xs (i + 1)] : List Int32).map Value.int) h = some (some (.int v), h1, s1)) (q2 : E_call fuel2 d 284 (.ref 83 :: ([xs (i + 1)] : List Int32).map Value.int) h1 = some (some (.int v), h2, s2)) (o1 : h[0]? = some (.inr (11, fs))) (o2 : h1[83]? = some (.inr (12, gs)))
    (hRf : d + 1 ≤ R.frames) (hRl : 48 * (d + 1) ≤ R.locals) (hR1 : h1.length ≤ R.cells) (hR2 : h2.length ≤ R.cells) (hR3 : sl + s1 + s2 ≤ R.slots)
    (kk : ∀ (H1 : Heap) (locs1 : List Loc), E_S D TY sz 0 s h2 H1 locs1 → W p l e R s m args below meth c H1 locs1 h2.length (sl + s1 + s2) Q (F0 m 613 ls [])) : W p l e R s m args below meth c H locs h.length sl Q (F0 m 590 ls []) := by
  have hx := X.1
  have hb := X.2.1
  refine lv_aload_n hx hb d_law_590 rfl (lv_at hl 1 rfl) ?_
  refine L_arg (k := 1) X hl hS.2.1 (by omega) rfl d_law_591 d_law_592 d_law_593 d_law_594 d_law_595 ?_
  show W p l e R s m args below meth c H locs h.length sl Q (F0 m 596 ls ((([xs (i + 1)] : List Int32).map Value.int).reverse ++ .ref (sz + 0) :: []))
  refine L_call (M := E_m161) X hl.1 hS rfl q1 o1 (by decide) rfl (by decide +kernel) rfl l_law_84 d_law_596 hRf hRl (Nat.zero_le _) ⟨hR1, by omega⟩ (fun H1 locs1 hS1 => ?_)
  refine lv_aload_n hx hb d_law_599 rfl (lv_at hl 2 rfl) ?_
  refine L_arg (k := 1) X hl hS1.2.1 (by omega) rfl d_law_600 d_law_601 d_law_602 d_law_603 d_law_604 ?_
  show W p l e R s m args below meth c H1 locs1 h1.length (sl + s1) Q (F0 m 605 ls ((([xs (i + 1)] : List Int32).map Value.int).reverse ++ .ref (sz + 83) :: [.int v]))
  refine L_call (M := E_m284) X hl.1 hS1 rfl q2 o2 (by decide) rfl (by decide +kernel) rfl l_law_87 d_law_605 hRf hRl (Nat.le_of_ble_eq_true rfl) ⟨hR2, hR3⟩ (fun H2 locs2 hS2 => ?_)
  refine lv_icmp_eq (tgt := 613) hx hb d_law_608 (by decide) (fun _ => ?_) (fun cn => absurd rfl cn)
  exact kk H2 locs2 hS2
/-- two calls with one answer, and what holds behind them -/
def L_two (d x y RC RS : Nat) (as : List Int32) (h : E_H) (sl : Nat) (J : E_H → Nat → Prop) : Prop := ∃ (m1 m2 : Nat) (v : Int32) (h1 : E_H) (s1 : Nat) (h2 : E_H) (s2 : Nat) (fs gs : List Value), E_call m1 d x (.ref 0 :: as.map Value.int) h = some (some (.int v), h1, s1) ∧ E_call m2 d y (.ref 83 :: as.map Value.int) h1 = some (some (.int v), h2, s2) ∧ h[0]? = some (.inr (11, fs)) ∧ h1[83]? = some (.inr (12, gs)) ∧ h1.length ≤ RC ∧ h2.length ≤ RC ∧ sl + s1 + s2 ≤ RS ∧ J h2 (sl + s1 + s2)
/-- one turn of the law: the j-th case with the arguments a 1 .. a 5 -/
def L_turn (d RC RS j : Nat) (a : Nat → Int32) (h : E_H) (sl : Nat) (J : E_H → Nat → Prop) : Prop := match j with
  | 0 => L_two d 145 175 RC RS [a 1, a 2, a 3, a 4, a 5] h sl J
  | 1 => L_two d 146 176 RC RS [a 1] h sl J
  | 2 => L_two d 147 180 RC RS [] h sl J
  | 3 => L_two d 148 181 RC RS [a 1] h sl J
  | 4 => L_two d 149 182 RC RS [a 1] h sl J
  | 5 => L_two d 150 183 RC RS [a 1] h sl J
  | 6 => L_two d 151 184 RC RS [a 1, a 2] h sl J
  | 7 => L_two d 152 186 RC RS [a 1, a 2] h sl J
  | 8 => L_two d 153 276 RC RS [(if a 1 = 0 then 0 else 1)] h sl J
  | 9 => L_two d 154 277 RC RS [a 1] h sl J
  | 10 => L_two d 155 278 RC RS [a 1, a 2] h sl J
  | 11 => L_two d 156 279 RC RS [a 1] h sl J
  | 12 => L_two d 157 280 RC RS [a 1] h sl J
  | 13 => L_two d 158 281 RC RS [a 1, a 2] h sl J
  | 14 => L_two d 159 282 RC RS [a 1] h sl J
  | 15 => L_two d 160 283 RC RS [a 1, a 2, a 3] h sl J
  | 16 => L_two d 161 284 RC RS [a 1] h sl J
  | _ => J h sl
theorem L_disp {b L i d j : Nat} {xs : Nat → Int32} {ls : Array Slot} {h : E_H} {J : E_H → Nat → Prop} (X : L_X p s m args c D TY b L xs sz) (hl : lv_has ls 4 [(0, .ref b), (1, .ref (sz + 0)), (2, .ref (sz + 83)), (3, .int (nI i))]) (hS : E_S D TY sz 0 s h H locs) (hi6 : i + 6 ≤ L) (hj : j < 32) (hop : xs i &&& 31 = nI j)
    (hRf : d + 1 ≤ R.frames) (hRl : 48 * (d + 1) ≤ R.locals) (ht : L_turn d R.cells R.slots j (fun k => xs (i + k)) h sl J)
    (kk : ∀ (h2 : E_H) (sl2 : Nat) (H1 : Heap) (locs1 : List Loc), J h2 sl2 → E_S D TY sz 0 s h2 H1 locs1 → W p l e R s m args below meth c H1 locs1 h2.length sl2 Q (F0 m 613 ls [])) : W p l e R s m args below meth c H locs h.length sl Q (F0 m 27 ls []) := by
  have hx := X.1
  have hb := X.2.1
  refine L_arg0 X hl hS.2.1 (by omega) d_law_27 d_law_28 d_law_29 ?_
  refine lv_bipush (v := 31) hx hb d_law_30 (by decide) ?_
  refine lv_iand hx hb d_law_32 ?_
  rw [hop]
  have hji : (nI j).toInt = (j : Int) := nI_toInt (by omega)
  rcases Nat.lt_or_ge j 17 with q | q
  · match j, q, ht, hji with
    | 0, q, ht, hji =>
      obtain ⟨m1, m2, v, h1, s1, h2, s2, fs, gs, q1, q2, o1, o2, r1, r2, r3, hJ⟩ := ht
      refine lv_tableIn (off := 83) (tgt := 116) hx hb d_law_33 (by decide) (by decide) (by decide) (by decide) ?_
      exact L_case_0 X hl hS hi6 q1 q2 o1 o2 hRf hRl r1 r2 r3 (fun H1 locs1 hS1 => kk _ _ _ _ hJ hS1)
    | 1, q, ht, hji =>
      obtain ⟨m1, m2, v, h1, s1, h2, s2, fs, gs, q1, q2, o1, o2, r1, r2, r3, hJ⟩ := ht
      refine lv_tableIn (off := 146) (tgt := 179) hx hb d_law_33 (by decide) (by decide) (by decide) (by decide) ?_
      exact L_case_1 X hl hS hi6 q1 q2 o1 o2 hRf hRl r1 r2 r3 (fun H1 locs1 hS1 => kk _ _ _ _ hJ hS1)
    | 2, q, ht, hji =>
      obtain ⟨m1, m2, v, h1, s1, h2, s2, fs, gs, q1, q2, o1, o2, r1, r2, r3, hJ⟩ := ht
      refine lv_tableIn (off := 169) (tgt := 202) hx hb d_law_33 (by decide) (by decide) (by decide) (by decide) ?_
      exact L_case_2 X hl hS hi6 q1 q2 o1 o2 hRf hRl r1 r2 r3 (fun H1 locs1 hS1 => kk _ _ _ _ hJ hS1)
    | 3, q, ht, hji =>
      obtain ⟨m1, m2, v, h1, s1, h2, s2, fs, gs, q1, q2, o1, o2, r1, r2, r3, hJ⟩ := ht
      refine lv_tableIn (off := 182) (tgt := 215) hx hb d_law_33 (by decide) (by decide) (by decide) (by decide) ?_
      exact L_case_3 X hl hS hi6 q1 q2 o1 o2 hRf hRl r1 r2 r3 (fun H1 locs1 hS1 => kk _ _ _ _ hJ hS1)
    | 4, q, ht, hji =>
      obtain ⟨m1, m2, v, h1, s1, h2, s2, fs, gs, q1, q2, o1, o2, r1, r2, r3, hJ⟩ := ht
      refine lv_tableIn (off := 205) (tgt := 238) hx hb d_law_33 (by decide) (by decide) (by decide) (by decide) ?_
      exact L_case_4 X hl hS hi6 q1 q2 o1 o2 hRf hRl r1 r2 r3 (fun H1 locs1 hS1 => kk _ _ _ _ hJ hS1)
    | 5, q, ht, hji =>
      obtain ⟨m1, m2, v, h1, s1, h2, s2, fs, gs, q1, q2, o1, o2, r1, r2, r3, hJ⟩ := ht
      refine lv_tableIn (off := 228) (tgt := 261) hx hb d_law_33 (by decide) (by decide) (by decide) (by decide) ?_
      exact L_case_5 X hl hS hi6 q1 q2 o1 o2 hRf hRl r1 r2 r3 (fun H1 locs1 hS1 => kk _ _ _ _ hJ hS1)
    | 6, q, ht, hji =>
      obtain ⟨m1, m2, v, h1, s1, h2, s2, fs, gs, q1, q2, o1, o2, r1, r2, r3, hJ⟩ := ht
      refine lv_tableIn (off := 251) (tgt := 284) hx hb d_law_33 (by decide) (by decide) (by decide) (by decide) ?_
      exact L_case_6 X hl hS hi6 q1 q2 o1 o2 hRf hRl r1 r2 r3 (fun H1 locs1 hS1 => kk _ _ _ _ hJ hS1)
    | 7, q, ht, hji =>
      obtain ⟨m1, m2, v, h1, s1, h2, s2, fs, gs, q1, q2, o1, o2, r1, r2, r3, hJ⟩ := ht
      refine lv_tableIn (off := 284) (tgt := 317) hx hb d_law_33 (by decide) (by decide) (by decide) (by decide) ?_
      exact L_case_7 X hl hS hi6 q1 q2 o1 o2 hRf hRl r1 r2 r3 (fun H1 locs1 hS1 => kk _ _ _ _ hJ hS1)
    | 8, q, ht, hji =>
      obtain ⟨m1, m2, v, h1, s1, h2, s2, fs, gs, q1, q2, o1, o2, r1, r2, r3, hJ⟩ := ht
      refine lv_tableIn (off := 317) (tgt := 350) hx hb d_law_33 (by decide) (by decide) (by decide) (by decide) ?_
      exact L_case_8 X hl hS hi6 q1 q2 o1 o2 hRf hRl r1 r2 r3 (fun H1 locs1 hS1 => kk _ _ _ _ hJ hS1)
    | 9, q, ht, hji =>
      obtain ⟨m1, m2, v, h1, s1, h2, s2, fs, gs, q1, q2, o1, o2, r1, r2, r3, hJ⟩ := ht
      refine lv_tableIn (off := 356) (tgt := 389) hx hb d_law_33 (by decide) (by decide) (by decide) (by decide) ?_
      exact L_case_9 X hl hS hi6 q1 q2 o1 o2 hRf hRl r1 r2 r3 (fun H1 locs1 hS1 => kk _ _ _ _ hJ hS1)
    | 10, q, ht, hji =>
      obtain ⟨m1, m2, v, h1, s1, h2, s2, fs, gs, q1, q2, o1, o2, r1, r2, r3, hJ⟩ := ht
      refine lv_tableIn (off := 379) (tgt := 412) hx hb d_law_33 (by decide) (by decide) (by decide) (by decide) ?_
      exact L_case_10 X hl hS hi6 q1 q2 o1 o2 hRf hRl r1 r2 r3 (fun H1 locs1 hS1 => kk _ _ _ _ hJ hS1)
    | 11, q, ht, hji =>
      obtain ⟨m1, m2, v, h1, s1, h2, s2, fs, gs, q1, q2, o1, o2, r1, r2, r3, hJ⟩ := ht
      refine lv_tableIn (off := 412) (tgt := 445) hx hb d_law_33 (by decide) (by decide) (by decide) (by decide) ?_
      exact L_case_11 X hl hS hi6 q1 q2 o1 o2 hRf hRl r1 r2 r3 (fun H1 locs1 hS1 => kk _ _ _ _ hJ hS1)
    | 12, q, ht, hji =>
      obtain ⟨m1, m2, v, h1, s1, h2, s2, fs, gs, q1, q2, o1, o2, r1, r2, r3, hJ⟩ := ht
      refine lv_tableIn (off := 435) (tgt := 468) hx hb d_law_33 (by decide) (by decide) (by decide) (by decide) ?_
      exact L_case_12 X hl hS hi6 q1 q2 o1 o2 hRf hRl r1 r2 r3 (fun H1 locs1 hS1 => kk _ _ _ _ hJ hS1)
    | 13, q, ht, hji =>
      obtain ⟨m1, m2, v, h1, s1, h2, s2, fs, gs, q1, q2, o1, o2, r1, r2, r3, hJ⟩ := ht
      refine lv_tableIn (off := 458) (tgt := 491) hx hb d_law_33 (by decide) (by decide) (by decide) (by decide) ?_
      exact L_case_13 X hl hS hi6 q1 q2 o1 o2 hRf hRl r1 r2 r3 (fun H1 locs1 hS1 => kk _ _ _ _ hJ hS1)
    | 14, q, ht, hji =>
      obtain ⟨m1, m2, v, h1, s1, h2, s2, fs, gs, q1, q2, o1, o2, r1, r2, r3, hJ⟩ := ht
      refine lv_tableIn (off := 491) (tgt := 524) hx hb d_law_33 (by decide) (by decide) (by decide) (by decide) ?_
      exact L_case_14 X hl hS hi6 q1 q2 o1 o2 hRf hRl r1 r2 r3 (fun H1 locs1 hS1 => kk _ _ _ _ hJ hS1)
    | 15, q, ht, hji =>
      obtain ⟨m1, m2, v, h1, s1, h2, s2, fs, gs, q1, q2, o1, o2, r1, r2, r3, hJ⟩ := ht
      refine lv_tableIn (off := 514) (tgt := 547) hx hb d_law_33 (by decide) (by decide) (by decide) (by decide) ?_
      exact L_case_15 X hl hS hi6 q1 q2 o1 o2 hRf hRl r1 r2 r3 (fun H1 locs1 hS1 => kk _ _ _ _ hJ hS1)
    | 16, q, ht, hji =>
      obtain ⟨m1, m2, v, h1, s1, h2, s2, fs, gs, q1, q2, o1, o2, r1, r2, r3, hJ⟩ := ht
      refine lv_tableIn (off := 557) (tgt := 590) hx hb d_law_33 (by decide) (by decide) (by decide) (by decide) ?_
      exact L_case_16 X hl hS hi6 q1 q2 o1 o2 hRf hRl r1 r2 r3 (fun H1 locs1 hS1 => kk _ _ _ _ hJ hS1)
    | k + 17, q, ht, hji => exact absurd q (by omega)
  · refine lv_tableOut (tgt := 613) hx hb d_law_33 (Or.inr (by rw [hji]; omega)) (by decide) ?_
    refine kk _ _ _ _ ?_ hS
    match j, q, ht with
    | 0, q, _ => exact absurd q (by omega)
    | 1, q, _ => exact absurd q (by omega)
    | 2, q, _ => exact absurd q (by omega)
    | 3, q, _ => exact absurd q (by omega)
    | 4, q, _ => exact absurd q (by omega)
    | 5, q, _ => exact absurd q (by omega)
    | 6, q, _ => exact absurd q (by omega)
    | 7, q, _ => exact absurd q (by omega)
    | 8, q, _ => exact absurd q (by omega)
    | 9, q, _ => exact absurd q (by omega)
    | 10, q, _ => exact absurd q (by omega)
    | 11, q, _ => exact absurd q (by omega)
    | 12, q, _ => exact absurd q (by omega)
    | 13, q, _ => exact absurd q (by omega)
    | 14, q, _ => exact absurd q (by omega)
    | 15, q, _ => exact absurd q (by omega)
    | 16, q, _ => exact absurd q (by omega)
    | k + 17, _, ht => exact ht
end LC
