/-! the law's calls, one by one -/
def sc (xs : Nat → Int32) (i k : Int) : Int := (xs (iI (i + k)).toNatClampNeg).toInt
theorem sc_rg (xs : Nat → Int32) (i k : Int) : -2147483648 ≤ sc xs i k ∧ sc xs i k ≤ 2147483647 := iI_rg _
theorem lg_cmp0 (x : Int64) : lg_cmp x x = 0 := by unfold lg_cmp; rw [if_neg (fun h => absurd (Int64.lt_iff_toInt_lt.mp h) (Int.lt_irrefl _)), if_pos rfl]
def lwL (b : Nat) (Y Y2 : Yt) (i : Int) : List (Nat × Value) := [(0, .ref b), (1, .ref (Y.2.1 0)), (2, .ref (Y2.2.1 0)), (3, .int (iI i))]
/-- what holds between the law's calls -/
def LJ (Y Y2 : Yt) (s : State) (A : Nat → Prop) (b : Nat) (i : Int) (P : List Pt) (hs : List (List Pt)) (tx ch : List Int) (σ τ : Mem) (H : Heap) (locs : List Loc) (ls : Array Slot) : Prop := XInv σ P hs tx ch ∧ MInv τ P hs tx ch ∧ wx LX Y σ s A H locs ∧ wx LM Y2 τ s A H locs ∧ lv_has ls 4 (lwL b Y Y2 i)
/-- what is fixed through the law -/
def LF (p : Program) (s : State) (m : MethodId) (args : Array Value) (meth : Method) (c : Code) (Y Y2 : Yt) (A : Nat → Prop) (b L : Nat) (xs : Nat → Int32) : Prop := gx p s m args meth c cL_law 4 RL lw_tbl ret ∧ va_X b L xs s s.heap ∧ b < s.heap.size ∧ ¬ A b ∧ apart LX LM Y Y2 ∧ L ≤ 2048
/-- behind a call -/
def LK (p : Program) (l : Launch) (e : Env) (s : State) (m : MethodId) (args : Array Value) (below : List Frame) (meth : Method) (c : Code) (Y Y2 : Yt) (A : Nat → Prop) (b : Nat) (i : Int) (Z : State → Prop) : Prop := ∀ (P : List Pt) (hs : List (List Pt)) (tx ch : List Int) (σ τ : Mem) (H : Heap) (locs : List Loc) (ls : Array Slot), LJ Y Y2 s A b i P hs tx ch σ τ H locs ls → W p l e room_1 s m args below meth c H locs 600000 7302249 Z (F0 m 903 ls [])
section LawC
variable {p : Program} {l : Launch} {e : Env} {s : State} {m : MethodId} {args : Array Value} {below : List Frame} {meth : Method} {c : Code} {H : Heap} {locs : List Loc} {Z : State → Prop} {rt : Option FieldType}
variable {Y Y2 : Yt} {σ τ : Mem} {A : Nat → Prop} {b L : Nat} {xs : Nat → Int32} {i : Int} {ls : Array Slot} {P : List Pt} {hs : List (List Pt)} {tx ch : List Int}
theorem g_scr (F : LF p s m args meth c Y Y2 A b L xs) (hS : va_S A s.heap H locs) (hl : lv_has ls 4 (lwL b Y Y2 i)) {rest : List Value} {pc : Nat} (k : Int) (hk : (0 ≤ i ∧ i + 4 ≤ L) ∧ 0 ≤ k ∧ k ≤ 3) (d0 : decode cL_law pc = .ok (.aload_n 0, 1)) (d1 : decode cL_law (pc + 1) = .ok (.iload_n 3, 1)) (d2 : decode cL_law (pc + 2) = .ok (.iconst k, 1)) (d3 : decode cL_law (pc + 3) = .ok (.iadd, 1)) (d4 : decode cL_law (pc + 4) = .ok (.iaload, 1)) (kk : W p l e room_1 s m args below meth c H locs 600000 7302249 Z (F0 m (pc + 5) ls (.int (iI (sc xs i k)) :: rest))) : W p l e room_1 s m args below meth c H locs 600000 7302249 Z (F0 m pc ls rest) := by
  obtain ⟨G, hX, hbl, hbA, -, hL⟩ := F
  refine lv_aload_n G.1 G.2.1 d0 rfl (lv_at hl 0 rfl) ?_
  refine lv_iload_n G.1 G.2.1 d1 rfl (lv_at hl 3 rfl) ?_
  refine lv_iconst (v := iI k) G.1 G.2.1 d2 rfl ?_
  refine g_iadd G d3 ?_
  refine va_sld G.1 G.2.1 hX hbl hbA hS (iI_in (by omega) (by omega)) d4 ?_
  rw [iI_of (xs _)]
  exact kk
theorem lc_0 (F : LF p s m args meth c Y Y2 A b L xs) (hi : 0 ≤ i ∧ i + 4 ≤ L) (K : LK p l e s m args below meth c Y Y2 A b i Z) (J : LJ Y Y2 s A b i P hs tx ch σ τ H locs ls) : W p l e room_1 s m args below meth c H locs 600000 7302249 Z (F0 m 156 ls []) := by
  obtain ⟨hI, hM, X, X2, hl⟩ := J
  have G := F.1
  have hx := G.1
  have hb := G.2.1
  have hap := F.2.2.2.2.1
  refine lv_aload_n hx hb dL_law_156 rfl (lv_at hl 1 rfl) ?_
  refine g_scr F X.2.2.1 hl 1 ⟨hi, by omega⟩ dL_law_157 dL_law_158 dL_law_159 dL_law_160 dL_law_161 ?_
  refine g_scr F X.2.2.1 hl 2 ⟨hi, by omega⟩ dL_law_162 dL_law_163 dL_law_164 dL_law_165 dL_law_166 ?_
  refine g_scr F X.2.2.1 hl 3 ⟨hi, by omega⟩ dL_law_167 dL_law_168 dL_law_169 dL_law_170 dL_law_171 ?_
  refine h_callVi G X X2 hap (rest := []) (As := [.int (iI (sc xs i 1)), .int (iI (sc xs i 2)), .int (iI (sc xs i 3))]) (t_X7_add l Y σ P hs tx ch (sc xs i 1) (sc xs i 2) (sc xs i 3) hI (sc_rg xs i 1) (sc_rg xs i 2) (sc_rg xs i 3)) (cwV 3 F.1.2.2.2.2.1 tv_X7_add rfl rfl rfl (by decide +kernel) ⟨Nat.le_of_ble_eq_true rfl, Nat.le_of_ble_eq_true rfl⟩) (k := 0) (Nat.le_of_ble_eq_true rfl) rfl rfl rfl rfl hl.1 rfl (Nat.le_of_ble_eq_true rfl) dL_law_172 ⟨Nat.le_refl _, Nat.le_refl _⟩ (fun z1 u1 H locs h1 X X2 => ?_)
  refine lv_aload_n hx hb dL_law_175 rfl (lv_at hl 2 rfl) ?_
  refine g_scr F X.2.2.1 hl 1 ⟨hi, by omega⟩ dL_law_176 dL_law_177 dL_law_178 dL_law_179 dL_law_180 ?_
  refine g_scr F X.2.2.1 hl 2 ⟨hi, by omega⟩ dL_law_181 dL_law_182 dL_law_183 dL_law_184 dL_law_185 ?_
  refine g_scr F X.2.2.1 hl 3 ⟨hi, by omega⟩ dL_law_186 dL_law_187 dL_law_188 dL_law_189 dL_law_190 ?_
  refine h_callVi G X2 X hap.sym (rest := [.int (iI z1)]) (As := [.int (iI (sc xs i 1)), .int (iI (sc xs i 2)), .int (iI (sc xs i 3))]) (t_X8_add l Y2 τ P hs tx ch (sc xs i 1) (sc xs i 2) (sc xs i 3) hM (sc_rg xs i 1) (sc_rg xs i 2) (sc_rg xs i 3)) (cwV 3 F.1.2.2.2.2.1 tv_X8_add rfl rfl rfl (by decide +kernel) ⟨Nat.le_of_ble_eq_true rfl, Nat.le_of_ble_eq_true rfl⟩) (k := 0) (Nat.le_of_ble_eq_true rfl) rfl rfl rfl rfl hl.1 rfl (Nat.le_of_ble_eq_true rfl) dL_law_191 ⟨Nat.le_refl _, Nat.le_refl _⟩ (fun z2 u2 H locs h2 X2 X => ?_)
  have hz : z1 = z2 := h1.1.trans h2.1.symm
  refine lv_icmp_eq (tgt := 903) hx hb dL_law_194 (by decide) (fun _ => ?_) (fun q => absurd (congrArg iI hz) q)
  exact K _ _ tx ch u1 u2 _ _ _ ⟨h1.2, h2.2, X, X2, hl⟩
theorem lc_1 (F : LF p s m args meth c Y Y2 A b L xs) (hi : 0 ≤ i ∧ i + 4 ≤ L) (K : LK p l e s m args below meth c Y Y2 A b i Z) (J : LJ Y Y2 s A b i P hs tx ch σ τ H locs ls) : W p l e room_1 s m args below meth c H locs 600000 7302249 Z (F0 m 199 ls []) := by
  obtain ⟨hI, hM, X, X2, hl⟩ := J
  have G := F.1
  have hx := G.1
  have hb := G.2.1
  have hap := F.2.2.2.2.1
  refine lv_aload_n hx hb dL_law_199 rfl (lv_at hl 1 rfl) ?_
  refine g_scr F X.2.2.1 hl 1 ⟨hi, by omega⟩ dL_law_200 dL_law_201 dL_law_202 dL_law_203 dL_law_204 ?_
  refine h_callVi G X X2 hap (rest := []) (As := [.int (iI (sc xs i 1))]) (t_X7_remove l Y σ P hs tx ch (sc xs i 1) hI (sc_rg xs i 1)) (cwV 1 F.1.2.2.2.2.1 tv_X7_remove rfl rfl rfl (by decide +kernel) ⟨Nat.le_of_ble_eq_true rfl, Nat.le_of_ble_eq_true rfl⟩) (k := 0) (Nat.le_of_ble_eq_true rfl) rfl rfl rfl rfl hl.1 rfl (Nat.le_of_ble_eq_true rfl) dL_law_205 ⟨Nat.le_refl _, Nat.le_refl _⟩ (fun z1 u1 H locs h1 X X2 => ?_)
  refine lv_aload_n hx hb dL_law_208 rfl (lv_at hl 2 rfl) ?_
  refine g_scr F X.2.2.1 hl 1 ⟨hi, by omega⟩ dL_law_209 dL_law_210 dL_law_211 dL_law_212 dL_law_213 ?_
  refine h_callVi G X2 X hap.sym (rest := [.int (iI z1)]) (As := [.int (iI (sc xs i 1))]) (t_X8_remove l Y2 τ P hs tx ch (sc xs i 1) hM (sc_rg xs i 1)) (cwV 1 F.1.2.2.2.2.1 tv_X8_remove rfl rfl rfl (by decide +kernel) ⟨Nat.le_of_ble_eq_true rfl, Nat.le_of_ble_eq_true rfl⟩) (k := 0) (Nat.le_of_ble_eq_true rfl) rfl rfl rfl rfl hl.1 rfl (Nat.le_of_ble_eq_true rfl) dL_law_214 ⟨Nat.le_refl _, Nat.le_refl _⟩ (fun z2 u2 H locs h2 X2 X => ?_)
  have hz : z1 = z2 := h1.1.trans h2.1.symm
  refine lv_icmp_eq (tgt := 903) hx hb dL_law_217 (by decide) (fun _ => ?_) (fun q => absurd (congrArg iI hz) q)
  exact K _ _ tx ch u1 u2 _ _ _ ⟨h1.2, h2.2, X, X2, hl⟩
theorem lc_2 (F : LF p s m args meth c Y Y2 A b L xs) (hi : 0 ≤ i ∧ i + 4 ≤ L) (K : LK p l e s m args below meth c Y Y2 A b i Z) (J : LJ Y Y2 s A b i P hs tx ch σ τ H locs ls) : W p l e room_1 s m args below meth c H locs 600000 7302249 Z (F0 m 222 ls []) := by
  obtain ⟨hI, hM, X, X2, hl⟩ := J
  have G := F.1
  have hx := G.1
  have hb := G.2.1
  have hap := F.2.2.2.2.1
  refine lv_aload_n hx hb dL_law_222 rfl (lv_at hl 1 rfl) ?_
  refine g_scr F X.2.2.1 hl 1 ⟨hi, by omega⟩ dL_law_223 dL_law_224 dL_law_225 dL_law_226 dL_law_227 ?_
  refine g_scr F X.2.2.1 hl 2 ⟨hi, by omega⟩ dL_law_228 dL_law_229 dL_law_230 dL_law_231 dL_law_232 ?_
  refine g_scr F X.2.2.1 hl 3 ⟨hi, by omega⟩ dL_law_233 dL_law_234 dL_law_235 dL_law_236 dL_law_237 ?_
  refine h_callVi G X X2 hap (rest := []) (As := [.int (iI (sc xs i 1)), .int (iI (sc xs i 2)), .int (iI (sc xs i 3))]) (t_X7_setPoint l Y σ P hs tx ch (sc xs i 1) (sc xs i 2) (sc xs i 3) hI (sc_rg xs i 1) (sc_rg xs i 2) (sc_rg xs i 3)) (cwV 3 F.1.2.2.2.2.1 tv_X7_setPoint rfl rfl rfl (by decide +kernel) ⟨Nat.le_of_ble_eq_true rfl, Nat.le_of_ble_eq_true rfl⟩) (k := 0) (Nat.le_of_ble_eq_true rfl) rfl rfl rfl rfl hl.1 rfl (Nat.le_of_ble_eq_true rfl) dL_law_238 ⟨Nat.le_refl _, Nat.le_refl _⟩ (fun z1 u1 H locs h1 X X2 => ?_)
  refine lv_aload_n hx hb dL_law_241 rfl (lv_at hl 2 rfl) ?_
  refine g_scr F X.2.2.1 hl 1 ⟨hi, by omega⟩ dL_law_242 dL_law_243 dL_law_244 dL_law_245 dL_law_246 ?_
  refine g_scr F X.2.2.1 hl 2 ⟨hi, by omega⟩ dL_law_247 dL_law_248 dL_law_249 dL_law_250 dL_law_251 ?_
  refine g_scr F X.2.2.1 hl 3 ⟨hi, by omega⟩ dL_law_252 dL_law_253 dL_law_254 dL_law_255 dL_law_256 ?_
  refine h_callVi G X2 X hap.sym (rest := [.int (iI z1)]) (As := [.int (iI (sc xs i 1)), .int (iI (sc xs i 2)), .int (iI (sc xs i 3))]) (t_X8_setPoint l Y2 τ P hs tx ch (sc xs i 1) (sc xs i 2) (sc xs i 3) hM (sc_rg xs i 1) (sc_rg xs i 2) (sc_rg xs i 3)) (cwV 3 F.1.2.2.2.2.1 tv_X8_setPoint rfl rfl rfl (by decide +kernel) ⟨Nat.le_of_ble_eq_true rfl, Nat.le_of_ble_eq_true rfl⟩) (k := 0) (Nat.le_of_ble_eq_true rfl) rfl rfl rfl rfl hl.1 rfl (Nat.le_of_ble_eq_true rfl) dL_law_257 ⟨Nat.le_refl _, Nat.le_refl _⟩ (fun z2 u2 H locs h2 X2 X => ?_)
  have hz : z1 = z2 := h1.1.trans h2.1.symm
  refine lv_icmp_eq (tgt := 903) hx hb dL_law_260 (by decide) (fun _ => ?_) (fun q => absurd (congrArg iI hz) q)
  exact K _ _ tx ch u1 u2 _ _ _ ⟨h1.2, h2.2, X, X2, hl⟩
theorem lc_3 (F : LF p s m args meth c Y Y2 A b L xs) (hi : 0 ≤ i ∧ i + 4 ≤ L) (K : LK p l e s m args below meth c Y Y2 A b i Z) (J : LJ Y Y2 s A b i P hs tx ch σ τ H locs ls) : W p l e room_1 s m args below meth c H locs 600000 7302249 Z (F0 m 265 ls []) := by
  obtain ⟨hI, hM, X, X2, hl⟩ := J
  have G := F.1
  have hx := G.1
  have hb := G.2.1
  have hap := F.2.2.2.2.1
  refine lv_aload_n hx hb dL_law_265 rfl (lv_at hl 1 rfl) ?_
  refine g_scr F X.2.2.1 hl 1 ⟨hi, by omega⟩ dL_law_266 dL_law_267 dL_law_268 dL_law_269 dL_law_270 ?_
  refine h_callVi G X X2 hap (rest := []) (As := [.int (iI (sc xs i 1))]) (t_X7_mirror l Y σ P hs tx ch (sc xs i 1) hI (sc_rg xs i 1)) (cwV 1 F.1.2.2.2.2.1 tv_X7_mirror rfl rfl rfl (by decide +kernel) ⟨Nat.le_of_ble_eq_true rfl, Nat.le_of_ble_eq_true rfl⟩) (k := 0) (Nat.le_of_ble_eq_true rfl) rfl rfl rfl rfl hl.1 rfl (Nat.le_of_ble_eq_true rfl) dL_law_271 ⟨Nat.le_refl _, Nat.le_refl _⟩ (fun z1 u1 H locs h1 X X2 => ?_)
  refine lv_aload_n hx hb dL_law_274 rfl (lv_at hl 2 rfl) ?_
  refine g_scr F X.2.2.1 hl 1 ⟨hi, by omega⟩ dL_law_275 dL_law_276 dL_law_277 dL_law_278 dL_law_279 ?_
  refine h_callVi G X2 X hap.sym (rest := [.int (iI z1)]) (As := [.int (iI (sc xs i 1))]) (t_X8_mirror l Y2 τ P hs tx ch (sc xs i 1) hM (sc_rg xs i 1)) (cwV 1 F.1.2.2.2.2.1 tv_X8_mirror rfl rfl rfl (by decide +kernel) ⟨Nat.le_of_ble_eq_true rfl, Nat.le_of_ble_eq_true rfl⟩) (k := 0) (Nat.le_of_ble_eq_true rfl) rfl rfl rfl rfl hl.1 rfl (Nat.le_of_ble_eq_true rfl) dL_law_280 ⟨Nat.le_refl _, Nat.le_refl _⟩ (fun z2 u2 H locs h2 X2 X => ?_)
  have hz : z1 = z2 := h1.1.trans h2.1.symm
  refine lv_icmp_eq (tgt := 903) hx hb dL_law_283 (by decide) (fun _ => ?_) (fun q => absurd (congrArg iI hz) q)
  exact K _ _ tx ch u1 u2 _ _ _ ⟨h1.2, h2.2, X, X2, hl⟩
theorem lc_4 (F : LF p s m args meth c Y Y2 A b L xs) (hi : 0 ≤ i ∧ i + 4 ≤ L) (K : LK p l e s m args below meth c Y Y2 A b i Z) (J : LJ Y Y2 s A b i P hs tx ch σ τ H locs ls) : W p l e room_1 s m args below meth c H locs 600000 7302249 Z (F0 m 288 ls []) := by
  obtain ⟨hI, hM, X, X2, hl⟩ := J
  have G := F.1
  have hx := G.1
  have hb := G.2.1
  have hap := F.2.2.2.2.1
  refine lv_aload_n hx hb dL_law_288 rfl (lv_at hl 1 rfl) ?_
  refine h_callVi G X X2 hap (rest := []) (As := []) (t_X7_lay l Y σ P hs tx ch  hI ) (cwV 0 F.1.2.2.2.2.1 tv_X7_lay rfl rfl rfl (by decide +kernel) ⟨Nat.le_of_ble_eq_true rfl, Nat.le_of_ble_eq_true rfl⟩) (k := 0) (Nat.le_of_ble_eq_true rfl) rfl rfl rfl rfl hl.1 rfl (Nat.le_of_ble_eq_true rfl) dL_law_289 ⟨Nat.le_refl _, Nat.le_refl _⟩ (fun z1 u1 H locs h1 X X2 => ?_)
  refine lv_aload_n hx hb dL_law_292 rfl (lv_at hl 2 rfl) ?_
  refine h_callVi G X2 X hap.sym (rest := [.int (iI z1)]) (As := []) (t_X8_lay l Y2 τ P hs tx ch  hM ) (cwV 0 F.1.2.2.2.2.1 tv_X8_lay rfl rfl rfl (by decide +kernel) ⟨Nat.le_of_ble_eq_true rfl, Nat.le_of_ble_eq_true rfl⟩) (k := 0) (Nat.le_of_ble_eq_true rfl) rfl rfl rfl rfl hl.1 rfl (Nat.le_of_ble_eq_true rfl) dL_law_293 ⟨Nat.le_refl _, Nat.le_refl _⟩ (fun z2 u2 H locs h2 X2 X => ?_)
  have hz : z1 = z2 := h1.1.trans h2.1.symm
  refine lv_icmp_eq (tgt := 903) hx hb dL_law_296 (by decide) (fun _ => ?_) (fun q => absurd (congrArg iI hz) q)
  exact K _ _ tx _ u1 u2 _ _ _ ⟨h1.2, h2.2, X, X2, hl⟩
theorem lc_5 (F : LF p s m args meth c Y Y2 A b L xs) (hi : 0 ≤ i ∧ i + 4 ≤ L) (K : LK p l e s m args below meth c Y Y2 A b i Z) (J : LJ Y Y2 s A b i P hs tx ch σ τ H locs ls) : W p l e room_1 s m args below meth c H locs 600000 7302249 Z (F0 m 301 ls []) := by
  obtain ⟨hI, hM, X, X2, hl⟩ := J
  have G := F.1
  have hx := G.1
  have hb := G.2.1
  have hap := F.2.2.2.2.1
  refine lv_aload_n hx hb dL_law_301 rfl (lv_at hl 1 rfl) ?_
  refine h_callVi G X X2 hap (rest := []) (As := []) (t_X7_undo l Y σ P hs tx ch  hI ) (cwV 0 F.1.2.2.2.2.1 tv_X7_undo rfl rfl rfl (by decide +kernel) ⟨Nat.le_of_ble_eq_true rfl, Nat.le_of_ble_eq_true rfl⟩) (k := 0) (Nat.le_of_ble_eq_true rfl) rfl rfl rfl rfl hl.1 rfl (Nat.le_of_ble_eq_true rfl) dL_law_302 ⟨Nat.le_refl _, Nat.le_refl _⟩ (fun z1 u1 H locs h1 X X2 => ?_)
  refine lv_aload_n hx hb dL_law_305 rfl (lv_at hl 2 rfl) ?_
  refine h_callVi G X2 X hap.sym (rest := [.int (iI z1)]) (As := []) (t_X8_undo l Y2 τ P hs tx ch  hM ) (cwV 0 F.1.2.2.2.2.1 tv_X8_undo rfl rfl rfl (by decide +kernel) ⟨Nat.le_of_ble_eq_true rfl, Nat.le_of_ble_eq_true rfl⟩) (k := 0) (Nat.le_of_ble_eq_true rfl) rfl rfl rfl rfl hl.1 rfl (Nat.le_of_ble_eq_true rfl) dL_law_306 ⟨Nat.le_refl _, Nat.le_refl _⟩ (fun z2 u2 H locs h2 X2 X => ?_)
  have hz : z1 = z2 := h1.1.trans h2.1.symm
  refine lv_icmp_eq (tgt := 903) hx hb dL_law_309 (by decide) (fun _ => ?_) (fun q => absurd (congrArg iI hz) q)
  exact K _ _ tx ch u1 u2 _ _ _ ⟨h1.2, h2.2, X, X2, hl⟩
theorem lc_6 (F : LF p s m args meth c Y Y2 A b L xs) (hi : 0 ≤ i ∧ i + 4 ≤ L) (K : LK p l e s m args below meth c Y Y2 A b i Z) (J : LJ Y Y2 s A b i P hs tx ch σ τ H locs ls) : W p l e room_1 s m args below meth c H locs 600000 7302249 Z (F0 m 314 ls []) := by
  obtain ⟨hI, hM, X, X2, hl⟩ := J
  have G := F.1
  have hx := G.1
  have hb := G.2.1
  have hap := F.2.2.2.2.1
  refine lv_aload_n hx hb dL_law_314 rfl (lv_at hl 1 rfl) ?_
  refine h_callVi G X X2 hap (rest := []) (As := []) (t_X7_points l Y σ P hs tx ch  hI ) (cwV 0 F.1.2.2.2.2.1 tv_X7_points rfl rfl rfl (by decide +kernel) ⟨Nat.le_of_ble_eq_true rfl, Nat.le_of_ble_eq_true rfl⟩) (k := 0) (Nat.le_of_ble_eq_true rfl) rfl rfl rfl rfl hl.1 rfl (Nat.le_of_ble_eq_true rfl) dL_law_315 ⟨Nat.le_refl _, Nat.le_refl _⟩ (fun z1 u1 H locs h1 X X2 => ?_)
  refine lv_aload_n hx hb dL_law_318 rfl (lv_at hl 2 rfl) ?_
  refine h_callVi G X2 X hap.sym (rest := [.int (iI z1)]) (As := []) (t_X8_points l Y2 τ P hs tx ch  hM ) (cwV 0 F.1.2.2.2.2.1 tv_X8_points rfl rfl rfl (by decide +kernel) ⟨Nat.le_of_ble_eq_true rfl, Nat.le_of_ble_eq_true rfl⟩) (k := 0) (Nat.le_of_ble_eq_true rfl) rfl rfl rfl rfl hl.1 rfl (Nat.le_of_ble_eq_true rfl) dL_law_319 ⟨Nat.le_refl _, Nat.le_refl _⟩ (fun z2 u2 H locs h2 X2 X => ?_)
  have hz : z1 = z2 := h1.2.trans h2.2.symm
  refine lv_icmp_eq (tgt := 903) hx hb dL_law_322 (by decide) (fun _ => ?_) (fun q => absurd (congrArg iI hz) q)
  exact K P hs tx ch u1 u2 _ _ _ ⟨(by rw [h1.1]; exact hI), (by rw [h2.1]; exact hM), X, X2, hl⟩
theorem lc_7 (F : LF p s m args meth c Y Y2 A b L xs) (hi : 0 ≤ i ∧ i + 4 ≤ L) (K : LK p l e s m args below meth c Y Y2 A b i Z) (J : LJ Y Y2 s A b i P hs tx ch σ τ H locs ls) : W p l e room_1 s m args below meth c H locs 600000 7302249 Z (F0 m 327 ls []) := by
  obtain ⟨hI, hM, X, X2, hl⟩ := J
  have G := F.1
  have hx := G.1
  have hb := G.2.1
  have hap := F.2.2.2.2.1
  refine lv_aload_n hx hb dL_law_327 rfl (lv_at hl 1 rfl) ?_
  refine g_scr F X.2.2.1 hl 1 ⟨hi, by omega⟩ dL_law_328 dL_law_329 dL_law_330 dL_law_331 dL_law_332 ?_
  refine g_scr F X.2.2.1 hl 2 ⟨hi, by omega⟩ dL_law_333 dL_law_334 dL_law_335 dL_law_336 dL_law_337 ?_
  refine h_callVi G X X2 hap (rest := []) (As := [.int (iI (sc xs i 1)), .int (iI (sc xs i 2))]) (t_X7_pointInfo l Y σ P hs tx ch (sc xs i 1) (sc xs i 2) hI (sc_rg xs i 1) (sc_rg xs i 2)) (cwV 2 F.1.2.2.2.2.1 tv_X7_pointInfo rfl rfl rfl (by decide +kernel) ⟨Nat.le_of_ble_eq_true rfl, Nat.le_of_ble_eq_true rfl⟩) (k := 0) (Nat.le_of_ble_eq_true rfl) rfl rfl rfl rfl hl.1 rfl (Nat.le_of_ble_eq_true rfl) dL_law_338 ⟨Nat.le_refl _, Nat.le_refl _⟩ (fun z1 u1 H locs h1 X X2 => ?_)
  refine lv_aload_n hx hb dL_law_341 rfl (lv_at hl 2 rfl) ?_
  refine g_scr F X.2.2.1 hl 1 ⟨hi, by omega⟩ dL_law_342 dL_law_343 dL_law_344 dL_law_345 dL_law_346 ?_
  refine g_scr F X.2.2.1 hl 2 ⟨hi, by omega⟩ dL_law_347 dL_law_348 dL_law_349 dL_law_350 dL_law_351 ?_
  refine h_callVi G X2 X hap.sym (rest := [.int (iI z1)]) (As := [.int (iI (sc xs i 1)), .int (iI (sc xs i 2))]) (t_X8_pointInfo l Y2 τ P hs tx ch (sc xs i 1) (sc xs i 2) hM (sc_rg xs i 1) (sc_rg xs i 2)) (cwV 2 F.1.2.2.2.2.1 tv_X8_pointInfo rfl rfl rfl (by decide +kernel) ⟨Nat.le_of_ble_eq_true rfl, Nat.le_of_ble_eq_true rfl⟩) (k := 0) (Nat.le_of_ble_eq_true rfl) rfl rfl rfl rfl hl.1 rfl (Nat.le_of_ble_eq_true rfl) dL_law_352 ⟨Nat.le_refl _, Nat.le_refl _⟩ (fun z2 u2 H locs h2 X2 X => ?_)
  have hz : z1 = z2 := h1.2.trans h2.1.symm
  refine lv_icmp_eq (tgt := 903) hx hb dL_law_355 (by decide) (fun _ => ?_) (fun q => absurd (congrArg iI hz) q)
  exact K P hs tx ch u1 u2 _ _ _ ⟨(by rw [h1.1]; exact hI), h2.2, X, X2, hl⟩
theorem lc_8 (F : LF p s m args meth c Y Y2 A b L xs) (hi : 0 ≤ i ∧ i + 4 ≤ L) (K : LK p l e s m args below meth c Y Y2 A b i Z) (J : LJ Y Y2 s A b i P hs tx ch σ τ H locs ls) : W p l e room_1 s m args below meth c H locs 600000 7302249 Z (F0 m 360 ls []) := by
  obtain ⟨hI, hM, X, X2, hl⟩ := J
  have G := F.1
  have hx := G.1
  have hb := G.2.1
  have hap := F.2.2.2.2.1
  refine lv_aload_n hx hb dL_law_360 rfl (lv_at hl 1 rfl) ?_
  refine h_callVi G X X2 hap (rest := []) (As := []) (t_X7_groups l Y σ P hs tx ch  hI ) (cwV 0 F.1.2.2.2.2.1 tv_X7_groups rfl rfl rfl (by decide +kernel) ⟨Nat.le_of_ble_eq_true rfl, Nat.le_of_ble_eq_true rfl⟩) (k := 0) (Nat.le_of_ble_eq_true rfl) rfl rfl rfl rfl hl.1 rfl (Nat.le_of_ble_eq_true rfl) dL_law_361 ⟨Nat.le_refl _, Nat.le_refl _⟩ (fun z1 u1 H locs h1 X X2 => ?_)
  refine lv_aload_n hx hb dL_law_364 rfl (lv_at hl 2 rfl) ?_
  refine h_callVi G X2 X hap.sym (rest := [.int (iI z1)]) (As := []) (t_X8_groups l Y2 τ P hs tx ch  hM ) (cwV 0 F.1.2.2.2.2.1 tv_X8_groups rfl rfl rfl (by decide +kernel) ⟨Nat.le_of_ble_eq_true rfl, Nat.le_of_ble_eq_true rfl⟩) (k := 0) (Nat.le_of_ble_eq_true rfl) rfl rfl rfl rfl hl.1 rfl (Nat.le_of_ble_eq_true rfl) dL_law_365 ⟨Nat.le_refl _, Nat.le_refl _⟩ (fun z2 u2 H locs h2 X2 X => ?_)
  have hz : z1 = z2 := h1.2.trans h2.1.symm
  refine lv_icmp_eq (tgt := 903) hx hb dL_law_368 (by decide) (fun _ => ?_) (fun q => absurd (congrArg iI hz) q)
  exact K P hs tx ch u1 u2 _ _ _ ⟨(by rw [h1.1]; exact hI), h2.2, X, X2, hl⟩
theorem lc_9 (F : LF p s m args meth c Y Y2 A b L xs) (hi : 0 ≤ i ∧ i + 4 ≤ L) (K : LK p l e s m args below meth c Y Y2 A b i Z) (J : LJ Y Y2 s A b i P hs tx ch σ τ H locs ls) : W p l e room_1 s m args below meth c H locs 600000 7302249 Z (F0 m 373 ls []) := by
  obtain ⟨hI, hM, X, X2, hl⟩ := J
  have G := F.1
  have hx := G.1
  have hb := G.2.1
  have hap := F.2.2.2.2.1
  refine lv_aload_n hx hb dL_law_373 rfl (lv_at hl 1 rfl) ?_
  refine g_scr F X.2.2.1 hl 1 ⟨hi, by omega⟩ dL_law_374 dL_law_375 dL_law_376 dL_law_377 dL_law_378 ?_
  refine g_scr F X.2.2.1 hl 2 ⟨hi, by omega⟩ dL_law_379 dL_law_380 dL_law_381 dL_law_382 dL_law_383 ?_
  refine h_callVi G X X2 hap (rest := []) (As := [.int (iI (sc xs i 1)), .int (iI (sc xs i 2))]) (t_X7_groupInfo l Y σ P hs tx ch (sc xs i 1) (sc xs i 2) hI (sc_rg xs i 1) (sc_rg xs i 2)) (cwV 2 F.1.2.2.2.2.1 tv_X7_groupInfo rfl rfl rfl (by decide +kernel) ⟨Nat.le_of_ble_eq_true rfl, Nat.le_of_ble_eq_true rfl⟩) (k := 0) (Nat.le_of_ble_eq_true rfl) rfl rfl rfl rfl hl.1 rfl (Nat.le_of_ble_eq_true rfl) dL_law_384 ⟨Nat.le_refl _, Nat.le_refl _⟩ (fun z1 u1 H locs h1 X X2 => ?_)
  refine lv_aload_n hx hb dL_law_387 rfl (lv_at hl 2 rfl) ?_
  refine g_scr F X.2.2.1 hl 1 ⟨hi, by omega⟩ dL_law_388 dL_law_389 dL_law_390 dL_law_391 dL_law_392 ?_
  refine g_scr F X.2.2.1 hl 2 ⟨hi, by omega⟩ dL_law_393 dL_law_394 dL_law_395 dL_law_396 dL_law_397 ?_
  refine h_callVi G X2 X hap.sym (rest := [.int (iI z1)]) (As := [.int (iI (sc xs i 1)), .int (iI (sc xs i 2))]) (t_X8_groupInfo l Y2 τ P hs tx ch (sc xs i 1) (sc xs i 2) hM (sc_rg xs i 1) (sc_rg xs i 2)) (cwV 2 F.1.2.2.2.2.1 tv_X8_groupInfo rfl rfl rfl (by decide +kernel) ⟨Nat.le_of_ble_eq_true rfl, Nat.le_of_ble_eq_true rfl⟩) (k := 0) (Nat.le_of_ble_eq_true rfl) rfl rfl rfl rfl hl.1 rfl (Nat.le_of_ble_eq_true rfl) dL_law_398 ⟨Nat.le_refl _, Nat.le_refl _⟩ (fun z2 u2 H locs h2 X2 X => ?_)
  have hz : z1 = z2 := h1.2.trans h2.1.symm
  refine lv_icmp_eq (tgt := 903) hx hb dL_law_401 (by decide) (fun _ => ?_) (fun q => absurd (congrArg iI hz) q)
  exact K P hs tx ch u1 u2 _ _ _ ⟨(by rw [h1.1]; exact hI), h2.2, X, X2, hl⟩
theorem lc_10 (F : LF p s m args meth c Y Y2 A b L xs) (hi : 0 ≤ i ∧ i + 4 ≤ L) (K : LK p l e s m args below meth c Y Y2 A b i Z) (J : LJ Y Y2 s A b i P hs tx ch σ τ H locs ls) : W p l e room_1 s m args below meth c H locs 600000 7302249 Z (F0 m 406 ls []) := by
  obtain ⟨hI, hM, X, X2, hl⟩ := J
  have G := F.1
  have hx := G.1
  have hb := G.2.1
  have hap := F.2.2.2.2.1
  refine lv_aload_n hx hb dL_law_406 rfl (lv_at hl 1 rfl) ?_
  refine g_scr F X.2.2.1 hl 1 ⟨hi, by omega⟩ dL_law_407 dL_law_408 dL_law_409 dL_law_410 dL_law_411 ?_
  refine g_scr F X.2.2.1 hl 2 ⟨hi, by omega⟩ dL_law_412 dL_law_413 dL_law_414 dL_law_415 dL_law_416 ?_
  refine g_scr F X.2.2.1 hl 3 ⟨hi, by omega⟩ dL_law_417 dL_law_418 dL_law_419 dL_law_420 dL_law_421 ?_
  refine h_callVl G X X2 hap (rest := []) (As := [.int (iI (sc xs i 1)), .int (iI (sc xs i 2)), .int (iI (sc xs i 3))]) (t_X7_fit l Y σ P hs tx ch (sc xs i 1) (sc xs i 2) (sc xs i 3) hI (sc_rg xs i 1) (sc_rg xs i 2) (sc_rg xs i 3)) (cwV 3 F.1.2.2.2.2.1 tv_X7_fit rfl rfl rfl (by decide +kernel) ⟨Nat.le_of_ble_eq_true rfl, Nat.le_of_ble_eq_true rfl⟩) (k := 0) (Nat.le_of_ble_eq_true rfl) rfl rfl rfl rfl hl.1 rfl (Nat.le_of_ble_eq_true rfl) dL_law_422 ⟨Nat.le_refl _, Nat.le_refl _⟩ (fun z1 u1 H locs h1 X X2 => ?_)
  refine lv_aload_n hx hb dL_law_425 rfl (lv_at hl 2 rfl) ?_
  refine g_scr F X.2.2.1 hl 1 ⟨hi, by omega⟩ dL_law_426 dL_law_427 dL_law_428 dL_law_429 dL_law_430 ?_
  refine g_scr F X.2.2.1 hl 2 ⟨hi, by omega⟩ dL_law_431 dL_law_432 dL_law_433 dL_law_434 dL_law_435 ?_
  refine g_scr F X.2.2.1 hl 3 ⟨hi, by omega⟩ dL_law_436 dL_law_437 dL_law_438 dL_law_439 dL_law_440 ?_
  refine h_callVl G X2 X hap.sym (rest := [.long (lI z1)]) (As := [.int (iI (sc xs i 1)), .int (iI (sc xs i 2)), .int (iI (sc xs i 3))]) (t_X8_fit l Y2 τ P hs tx ch (sc xs i 1) (sc xs i 2) (sc xs i 3) hM (sc_rg xs i 1) (sc_rg xs i 2) (sc_rg xs i 3)) (cwV 3 F.1.2.2.2.2.1 tv_X8_fit rfl rfl rfl (by decide +kernel) ⟨Nat.le_of_ble_eq_true rfl, Nat.le_of_ble_eq_true rfl⟩) (k := 0) (Nat.le_of_ble_eq_true rfl) rfl rfl rfl rfl hl.1 rfl (Nat.le_of_ble_eq_true rfl) dL_law_441 ⟨Nat.le_refl _, Nat.le_refl _⟩ (fun z2 u2 H locs h2 X2 X => ?_)
  have hz : z1 = z2 := h1.1.trans h2.1.symm
  refine W.lcmp hx hb dL_law_444 ?_
  rw [hz, lg_cmp0]
  refine lv_if_eq (tgt := 903) hx hb dL_law_445 (by decide) (fun _ => ?_) (fun q => absurd rfl q)
  exact K P hs tx ch u1 u2 _ _ _ ⟨h1.2, h2.2, X, X2, hl⟩
theorem lc_11 (F : LF p s m args meth c Y Y2 A b L xs) (hi : 0 ≤ i ∧ i + 4 ≤ L) (K : LK p l e s m args below meth c Y Y2 A b i Z) (J : LJ Y Y2 s A b i P hs tx ch σ τ H locs ls) : W p l e room_1 s m args below meth c H locs 600000 7302249 Z (F0 m 450 ls []) := by
  obtain ⟨hI, hM, X, X2, hl⟩ := J
  have G := F.1
  have hx := G.1
  have hb := G.2.1
  have hap := F.2.2.2.2.1
  refine lv_aload_n hx hb dL_law_450 rfl (lv_at hl 1 rfl) ?_
  refine g_scr F X.2.2.1 hl 1 ⟨hi, by omega⟩ dL_law_451 dL_law_452 dL_law_453 dL_law_454 dL_law_455 ?_
  refine g_scr F X.2.2.1 hl 2 ⟨hi, by omega⟩ dL_law_456 dL_law_457 dL_law_458 dL_law_459 dL_law_460 ?_
  refine h_callVl G X X2 hap (rest := []) (As := [.int (iI (sc xs i 1)), .int (iI (sc xs i 2))]) (t_X7_error l Y σ P hs tx ch (sc xs i 1) (sc xs i 2) hI (sc_rg xs i 1) (sc_rg xs i 2)) (cwV 2 F.1.2.2.2.2.1 tv_X7_error rfl rfl rfl (by decide +kernel) ⟨Nat.le_of_ble_eq_true rfl, Nat.le_of_ble_eq_true rfl⟩) (k := 0) (Nat.le_of_ble_eq_true rfl) rfl rfl rfl rfl hl.1 rfl (Nat.le_of_ble_eq_true rfl) dL_law_461 ⟨Nat.le_refl _, Nat.le_refl _⟩ (fun z1 u1 H locs h1 X X2 => ?_)
  refine lv_aload_n hx hb dL_law_464 rfl (lv_at hl 2 rfl) ?_
  refine g_scr F X.2.2.1 hl 1 ⟨hi, by omega⟩ dL_law_465 dL_law_466 dL_law_467 dL_law_468 dL_law_469 ?_
  refine g_scr F X.2.2.1 hl 2 ⟨hi, by omega⟩ dL_law_470 dL_law_471 dL_law_472 dL_law_473 dL_law_474 ?_
  refine h_callVl G X2 X hap.sym (rest := [.long (lI z1)]) (As := [.int (iI (sc xs i 1)), .int (iI (sc xs i 2))]) (t_X8_error l Y2 τ P hs tx ch (sc xs i 1) (sc xs i 2) hM (sc_rg xs i 1) (sc_rg xs i 2)) (cwV 2 F.1.2.2.2.2.1 tv_X8_error rfl rfl rfl (by decide +kernel) ⟨Nat.le_of_ble_eq_true rfl, Nat.le_of_ble_eq_true rfl⟩) (k := 0) (Nat.le_of_ble_eq_true rfl) rfl rfl rfl rfl hl.1 rfl (Nat.le_of_ble_eq_true rfl) dL_law_475 ⟨Nat.le_refl _, Nat.le_refl _⟩ (fun z2 u2 H locs h2 X2 X => ?_)
  have hz : z1 = z2 := h1.1.trans h2.1.symm
  refine W.lcmp hx hb dL_law_478 ?_
  rw [hz, lg_cmp0]
  refine lv_if_eq (tgt := 903) hx hb dL_law_479 (by decide) (fun _ => ?_) (fun q => absurd rfl q)
  exact K P hs tx ch u1 u2 _ _ _ ⟨h1.2, h2.2, X, X2, hl⟩
theorem lc_12 (F : LF p s m args meth c Y Y2 A b L xs) (hi : 0 ≤ i ∧ i + 4 ≤ L) (K : LK p l e s m args below meth c Y Y2 A b i Z) (J : LJ Y Y2 s A b i P hs tx ch σ τ H locs ls) : W p l e room_1 s m args below meth c H locs 600000 7302249 Z (F0 m 484 ls []) := by
  obtain ⟨hI, hM, X, X2, hl⟩ := J
  have G := F.1
  have hx := G.1
  have hb := G.2.1
  have hap := F.2.2.2.2.1
  refine lv_aload_n hx hb dL_law_484 rfl (lv_at hl 1 rfl) ?_
  refine g_scr F X.2.2.1 hl 1 ⟨hi, by omega⟩ dL_law_485 dL_law_486 dL_law_487 dL_law_488 dL_law_489 ?_
  refine h_callVi G X X2 hap (rest := []) (As := [.int (iI (sc xs i 1))]) (t_X7_turn l Y σ P hs tx ch (sc xs i 1) hI (sc_rg xs i 1)) (cwV 1 F.1.2.2.2.2.1 tv_X7_turn rfl rfl rfl (by decide +kernel) ⟨Nat.le_of_ble_eq_true rfl, Nat.le_of_ble_eq_true rfl⟩) (k := 0) (Nat.le_of_ble_eq_true rfl) rfl rfl rfl rfl hl.1 rfl (Nat.le_of_ble_eq_true rfl) dL_law_490 ⟨Nat.le_refl _, Nat.le_refl _⟩ (fun z1 u1 H locs h1 X X2 => ?_)
  refine lv_aload_n hx hb dL_law_493 rfl (lv_at hl 2 rfl) ?_
  refine g_scr F X.2.2.1 hl 1 ⟨hi, by omega⟩ dL_law_494 dL_law_495 dL_law_496 dL_law_497 dL_law_498 ?_
  refine h_callVi G X2 X hap.sym (rest := [.int (iI z1)]) (As := [.int (iI (sc xs i 1))]) (t_X8_turn l Y2 τ P hs tx ch (sc xs i 1) hM (sc_rg xs i 1)) (cwV 1 F.1.2.2.2.2.1 tv_X8_turn rfl rfl rfl (by decide +kernel) ⟨Nat.le_of_ble_eq_true rfl, Nat.le_of_ble_eq_true rfl⟩) (k := 0) (Nat.le_of_ble_eq_true rfl) rfl rfl rfl rfl hl.1 rfl (Nat.le_of_ble_eq_true rfl) dL_law_499 ⟨Nat.le_refl _, Nat.le_refl _⟩ (fun z2 u2 H locs h2 X2 X => ?_)
  have hz : z1 = z2 := h1.1.trans h2.1.symm
  refine lv_icmp_eq (tgt := 903) hx hb dL_law_502 (by decide) (fun _ => ?_) (fun q => absurd (congrArg iI hz) q)
  exact K P hs tx ch u1 u2 _ _ _ ⟨h1.2, h2.2, X, X2, hl⟩
theorem lc_13 (F : LF p s m args meth c Y Y2 A b L xs) (hi : 0 ≤ i ∧ i + 4 ≤ L) (K : LK p l e s m args below meth c Y Y2 A b i Z) (J : LJ Y Y2 s A b i P hs tx ch σ τ H locs ls) : W p l e room_1 s m args below meth c H locs 600000 7302249 Z (F0 m 507 ls []) := by
  obtain ⟨hI, hM, X, X2, hl⟩ := J
  have G := F.1
  have hx := G.1
  have hb := G.2.1
  have hap := F.2.2.2.2.1
  refine lv_aload_n hx hb dL_law_507 rfl (lv_at hl 1 rfl) ?_
  refine g_scr F X.2.2.1 hl 1 ⟨hi, by omega⟩ dL_law_508 dL_law_509 dL_law_510 dL_law_511 dL_law_512 ?_
  refine g_scr F X.2.2.1 hl 2 ⟨hi, by omega⟩ dL_law_513 dL_law_514 dL_law_515 dL_law_516 dL_law_517 ?_
  refine g_scr F X.2.2.1 hl 3 ⟨hi, by omega⟩ dL_law_518 dL_law_519 dL_law_520 dL_law_521 dL_law_522 ?_
  refine h_callVl G X X2 hap (rest := []) (As := [.int (iI (sc xs i 1)), .int (iI (sc xs i 2)), .int (iI (sc xs i 3))]) (t_X7_turnError l Y σ P hs tx ch (sc xs i 1) (sc xs i 2) (sc xs i 3) hI (sc_rg xs i 1) (sc_rg xs i 2) (sc_rg xs i 3)) (cwV 3 F.1.2.2.2.2.1 tv_X7_turnError rfl rfl rfl (by decide +kernel) ⟨Nat.le_of_ble_eq_true rfl, Nat.le_of_ble_eq_true rfl⟩) (k := 0) (Nat.le_of_ble_eq_true rfl) rfl rfl rfl rfl hl.1 rfl (Nat.le_of_ble_eq_true rfl) dL_law_523 ⟨Nat.le_refl _, Nat.le_refl _⟩ (fun z1 u1 H locs h1 X X2 => ?_)
  refine lv_aload_n hx hb dL_law_526 rfl (lv_at hl 2 rfl) ?_
  refine g_scr F X.2.2.1 hl 1 ⟨hi, by omega⟩ dL_law_527 dL_law_528 dL_law_529 dL_law_530 dL_law_531 ?_
  refine g_scr F X.2.2.1 hl 2 ⟨hi, by omega⟩ dL_law_532 dL_law_533 dL_law_534 dL_law_535 dL_law_536 ?_
  refine g_scr F X.2.2.1 hl 3 ⟨hi, by omega⟩ dL_law_537 dL_law_538 dL_law_539 dL_law_540 dL_law_541 ?_
  refine h_callVl G X2 X hap.sym (rest := [.long (lI z1)]) (As := [.int (iI (sc xs i 1)), .int (iI (sc xs i 2)), .int (iI (sc xs i 3))]) (t_X8_turnError l Y2 τ P hs tx ch (sc xs i 1) (sc xs i 2) (sc xs i 3) hM (sc_rg xs i 1) (sc_rg xs i 2) (sc_rg xs i 3)) (cwV 3 F.1.2.2.2.2.1 tv_X8_turnError rfl rfl rfl (by decide +kernel) ⟨Nat.le_of_ble_eq_true rfl, Nat.le_of_ble_eq_true rfl⟩) (k := 0) (Nat.le_of_ble_eq_true rfl) rfl rfl rfl rfl hl.1 rfl (Nat.le_of_ble_eq_true rfl) dL_law_542 ⟨Nat.le_refl _, Nat.le_refl _⟩ (fun z2 u2 H locs h2 X2 X => ?_)
  have hz : z1 = z2 := h1.1.trans h2.1.symm
  refine W.lcmp hx hb dL_law_545 ?_
  rw [hz, lg_cmp0]
  refine lv_if_eq (tgt := 903) hx hb dL_law_546 (by decide) (fun _ => ?_) (fun q => absurd rfl q)
  exact K P hs tx ch u1 u2 _ _ _ ⟨h1.2, h2.2, X, X2, hl⟩
end LawC
