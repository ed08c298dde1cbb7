/-! ===== where everything lies (written by wip/gen/mklayout.py) ===== -/
def tyL (pl : Nat) : List (Nat × Nat) := [(1, 11), (1, 7), (1, 4), (2, 2), (2, 200), (1, 7), (1, 4), (2, 2), (2, 200), (7, 6), (1, 6), (6, 20), (6, 8), (6, 4), (2, 300), (1, 1), (1, 1), (1, 1), (1, 1), (1, 1), (1, 1), (1, 1), (1, 1), (1, 1), (1, 1), (1, 1), (1, 1), (1, 1), (1, 1), (1, 1), (1, 1), (1, 1), (1, 1), (1, 1), (1, 1), (1, 5), (2, 300), (1, 10), (2, 56), (1, 4), (3, 41), (2, 41), (1, 6), (6, 20), (6, 8), (6, 4), (2, 300), (1, 1), (1, 1), (1, 1), (1, 1), (1, 1), (1, 1), (1, 1), (1, 1), (1, 1), (1, 1), (1, 1), (1, 1), (1, 1), (1, 1), (1, 1), (1, 1), (1, 1), (1, 1), (1, 1), (1, 1), (1, 6), (6, 20), (6, 8), (6, 4), (2, 300), (1, 1), (1, 1), (1, 1), (1, 1), (1, 1), (1, 1), (1, 1), (1, 1), (1, 1), (1, 1), (1, 1), (1, 1), (1, 1), (1, 1), (1, 1), (1, 1), (1, 1), (1, 1), (1, 1), (1, 1), (1, 6), (6, 20), (6, 8), (6, 4), (2, 300), (1, 1), (1, 1), (1, 1), (1, 1), (1, 1), (1, 1), (1, 1), (1, 1), (1, 1), (1, 1), (1, 1), (1, 1), (1, 1), (1, 1), (1, 1), (1, 1), (1, 1), (1, 1), (1, 1), (1, 1), (1, 6), (6, 20), (6, 8), (6, 4), (2, 300), (1, 1), (1, 1), (1, 1), (1, 1), (1, 1), (1, 1), (1, 1), (1, 1), (1, 1), (1, 1), (1, 1), (1, 1), (1, 1), (1, 1), (1, 1), (1, 1), (1, 1), (1, 1), (1, 1), (1, 1), (1, 6), (6, 20), (6, 8), (6, 4), (2, 300), (1, 1), (1, 1), (1, 1), (1, 1), (1, 1), (1, 1), (1, 1), (1, 1), (1, 1), (1, 1), (1, 1), (1, 1), (1, 1), (1, 1), (1, 1), (1, 1), (1, 1), (1, 1), (1, 1), (1, 1), (1, 6), (6, 20), (6, 8), (6, 4), (2, 300), (1, 1), (1, 1), (1, 1), (1, 1), (1, 1), (1, 1), (1, 1), (1, 1), (1, 1), (1, 1), (1, 1), (1, 1), (1, 1), (1, 1), (1, 1), (1, 1), (1, 1), (1, 1), (1, 1), (1, 1), (1, 9), (2, 7), (2, 64), (1, 2), (2, 8), (2, 8), (2, 8), (2, 8), (2, 4 * pl), (1, 3), (2, 8), (1, 8), (2, 2000), (2, 128000), (3, 2000), (2, 2000), (2, 4096), (1, 4), (1, 4), (1, 4), (1, 0), (2, 2000), (2, 2000), (2, 16000), (2, 16000), (2, 2000), (2, 128000), (2, 2000), (2, 2000), (2, 2000), (1, 12), (2, 240), (2, 240), (4, 300), (2, 6), (2, 120), (2, 120), (2, 120), (2, 120), (2, 120), (2, 120), (2, 2400), (2, 2400), (2, 40), (2, 41), (2, 80), (2, 80), (2, 20), (2, 20), (2, 80), (2, 400), (2, 400), (2, 7), (3, 200), (2, 12), (2, 8), (2, 8), (2, 8), (2, 8), (3, 8), (3, 41), (2, 41), (3, 2000), (2, 2000), (2, 128000), (2, 2000), (2, 2000), (2, 8192), (2, 2000), (5, 2000)]
def TYF (pl L : Nat) (a : Nat) : Nat × Nat := if a < 8 then T0 L a else (tyL pl).getD (a - 8) (0, 0)
def xrefs : List (Nat × Nat × Nat) := [(8, 2, 9), (8, 3, 13), (8, 4, 17), (8, 5, 18), (8, 6, 43), (8, 7, 45), (8, 8, 203), (8, 9, 209), (8, 10, 211), (8, 11, 220), (8, 12, 47), (8, 13, 48), (8, 14, 49), (9, 0, 10), (9, 1, 11), (9, 2, 12), (13, 0, 14), (13, 1, 15), (13, 2, 16), (18, 0, 19), (18, 1, 20), (18, 2, 21), (18, 3, 22), (43, 0, 44), (45, 0, 46), (200, 0, 201), (200, 1, 202), (203, 0, 204), (203, 1, 205), (203, 2, 206), (203, 5, 208), (203, 6, 207), (203, 7, 200), (209, 2, 203), (209, 3, 200), (209, 4, 45), (209, 5, 210), (211, 0, 212), (211, 1, 213), (211, 4, 214), (211, 5, 215), (211, 6, 216), (211, 7, 203), (211, 8, 217), (211, 9, 218), (211, 10, 219), (220, 0, 221), (220, 1, 222), (220, 2, 211), (220, 3, 45), (220, 4, 223), (220, 5, 224), (220, 6, 225), (220, 7, 226), (220, 8, 227), (220, 9, 228), (220, 10, 229), (230, 3, 231), (230, 4, 232), (230, 5, 233), (230, 9, 234), (230, 10, 235), (230, 11, 236), (230, 12, 237), (230, 13, 238), (230, 14, 239), (230, 15, 240), (230, 16, 241), (230, 17, 242), (230, 27, 243), (230, 28, 244), (230, 30, 245), (230, 31, 246), (230, 35, 247), (230, 36, 248), (230, 37, 249), (230, 39, 250), (230, 40, 251), (230, 41, 252), (230, 42, 253), (230, 43, 254), (230, 44, 255), (230, 50, 256), (230, 51, 257), (230, 52, 258), (230, 54, 259), (230, 55, 260), (230, 56, 261), (230, 59, 262), (230, 60, 263), (230, 61, 264), (230, 62, 265), (230, 63, 266), (230, 64, 267), (230, 65, 268), (230, 69, 269)]
/-- where the rules of text t lie -/
def rA (t : Nat) : Nat := 50 + 25 * t
def isRA (r : Nat) : Prop := r = 18 ∨ ∃ t, t < 6 ∧ r = rA t
def Lay (pl L : Nat) (M : Mem) : Prop := mT M = TYF pl L ∧ mZ M = 270 ∧ (∀ q ∈ xrefs, mR M q.1 q.2.1 = some q.2.2) ∧ (∀ t, t < 6 → mR M 17 t = some (rA t)) ∧ (∀ r, isRA r → mR M r 0 = some (r + 1) ∧ mR M r 1 = some (r + 2) ∧ mR M r 2 = some (r + 3) ∧ mR M r 3 = some (r + 4) ∧ ∀ i, i < 20 → mR M (r + 1) i = some (r + 5 + i)) ∧ (∀ r, isRA r → ∀ i, i < 20 → mI M (r + 5 + i) 0 = nI i) ∧ mR M 2 0 = some 4 ∧ mR M 3 0 = some 5 ∧ (∀ k, mI M 1 k = wtk.getD k 0) ∧ (∀ k, mI M 4 k = wb1.getD k 0) ∧ (∀ k, mI M 5 k = wb2.getD k 0) ∧ (∀ k, mI M 2 k = 0) ∧ ∀ k, mI M 3 k = 0
section LY
variable {pl L : Nat} {M : Mem}
theorem ly_t8 (h : Lay pl L M) : mT M 8 = (1, 11) := by rw [h.1]; rfl
theorem ly_t9 (h : Lay pl L M) : mT M 9 = (1, 7) := by rw [h.1]; rfl
theorem ly_t10 (h : Lay pl L M) : mT M 10 = (1, 4) := by rw [h.1]; rfl
theorem ly_t11 (h : Lay pl L M) : mT M 11 = (2, 2) := by rw [h.1]; rfl
theorem ly_t12 (h : Lay pl L M) : mT M 12 = (2, 200) := by rw [h.1]; rfl
theorem ly_t13 (h : Lay pl L M) : mT M 13 = (1, 7) := by rw [h.1]; rfl
theorem ly_t14 (h : Lay pl L M) : mT M 14 = (1, 4) := by rw [h.1]; rfl
theorem ly_t15 (h : Lay pl L M) : mT M 15 = (2, 2) := by rw [h.1]; rfl
theorem ly_t16 (h : Lay pl L M) : mT M 16 = (2, 200) := by rw [h.1]; rfl
theorem ly_t17 (h : Lay pl L M) : mT M 17 = (7, 6) := by rw [h.1]; rfl
theorem ly_t18 (h : Lay pl L M) : mT M 18 = (1, 6) := by rw [h.1]; rfl
theorem ly_t19 (h : Lay pl L M) : mT M 19 = (6, 20) := by rw [h.1]; rfl
theorem ly_t20 (h : Lay pl L M) : mT M 20 = (6, 8) := by rw [h.1]; rfl
theorem ly_t21 (h : Lay pl L M) : mT M 21 = (6, 4) := by rw [h.1]; rfl
theorem ly_t22 (h : Lay pl L M) : mT M 22 = (2, 300) := by rw [h.1]; rfl
theorem ly_t43 (h : Lay pl L M) : mT M 43 = (1, 5) := by rw [h.1]; rfl
theorem ly_t44 (h : Lay pl L M) : mT M 44 = (2, 300) := by rw [h.1]; rfl
theorem ly_t45 (h : Lay pl L M) : mT M 45 = (1, 10) := by rw [h.1]; rfl
theorem ly_t46 (h : Lay pl L M) : mT M 46 = (2, 56) := by rw [h.1]; rfl
theorem ly_t47 (h : Lay pl L M) : mT M 47 = (1, 4) := by rw [h.1]; rfl
theorem ly_t48 (h : Lay pl L M) : mT M 48 = (3, 41) := by rw [h.1]; rfl
theorem ly_t49 (h : Lay pl L M) : mT M 49 = (2, 41) := by rw [h.1]; rfl
theorem ly_t200 (h : Lay pl L M) : mT M 200 = (1, 9) := by rw [h.1]; rfl
theorem ly_t201 (h : Lay pl L M) : mT M 201 = (2, 7) := by rw [h.1]; rfl
theorem ly_t202 (h : Lay pl L M) : mT M 202 = (2, 64) := by rw [h.1]; rfl
theorem ly_t203 (h : Lay pl L M) : mT M 203 = (1, 2) := by rw [h.1]; rfl
theorem ly_t204 (h : Lay pl L M) : mT M 204 = (2, 8) := by rw [h.1]; rfl
theorem ly_t205 (h : Lay pl L M) : mT M 205 = (2, 8) := by rw [h.1]; rfl
theorem ly_t206 (h : Lay pl L M) : mT M 206 = (2, 8) := by rw [h.1]; rfl
theorem ly_t207 (h : Lay pl L M) : mT M 207 = (2, 8) := by rw [h.1]; rfl
theorem ly_t208 (h : Lay pl L M) : mT M 208 = (2, 4 * pl) := by rw [h.1]; rfl
theorem ly_t209 (h : Lay pl L M) : mT M 209 = (1, 3) := by rw [h.1]; rfl
theorem ly_t210 (h : Lay pl L M) : mT M 210 = (2, 8) := by rw [h.1]; rfl
theorem ly_t211 (h : Lay pl L M) : mT M 211 = (1, 8) := by rw [h.1]; rfl
theorem ly_t212 (h : Lay pl L M) : mT M 212 = (2, 2000) := by rw [h.1]; rfl
theorem ly_t213 (h : Lay pl L M) : mT M 213 = (2, 128000) := by rw [h.1]; rfl
theorem ly_t214 (h : Lay pl L M) : mT M 214 = (3, 2000) := by rw [h.1]; rfl
theorem ly_t215 (h : Lay pl L M) : mT M 215 = (2, 2000) := by rw [h.1]; rfl
theorem ly_t216 (h : Lay pl L M) : mT M 216 = (2, 4096) := by rw [h.1]; rfl
theorem ly_t217 (h : Lay pl L M) : mT M 217 = (1, 4) := by rw [h.1]; rfl
theorem ly_t218 (h : Lay pl L M) : mT M 218 = (1, 4) := by rw [h.1]; rfl
theorem ly_t219 (h : Lay pl L M) : mT M 219 = (1, 4) := by rw [h.1]; rfl
theorem ly_t220 (h : Lay pl L M) : mT M 220 = (1, 0) := by rw [h.1]; rfl
theorem ly_t221 (h : Lay pl L M) : mT M 221 = (2, 2000) := by rw [h.1]; rfl
theorem ly_t222 (h : Lay pl L M) : mT M 222 = (2, 2000) := by rw [h.1]; rfl
theorem ly_t223 (h : Lay pl L M) : mT M 223 = (2, 16000) := by rw [h.1]; rfl
theorem ly_t224 (h : Lay pl L M) : mT M 224 = (2, 16000) := by rw [h.1]; rfl
theorem ly_t225 (h : Lay pl L M) : mT M 225 = (2, 2000) := by rw [h.1]; rfl
theorem ly_t226 (h : Lay pl L M) : mT M 226 = (2, 128000) := by rw [h.1]; rfl
theorem ly_t227 (h : Lay pl L M) : mT M 227 = (2, 2000) := by rw [h.1]; rfl
theorem ly_t228 (h : Lay pl L M) : mT M 228 = (2, 2000) := by rw [h.1]; rfl
theorem ly_t229 (h : Lay pl L M) : mT M 229 = (2, 2000) := by rw [h.1]; rfl
theorem ly_t230 (h : Lay pl L M) : mT M 230 = (1, 12) := by rw [h.1]; rfl
theorem ly_t231 (h : Lay pl L M) : mT M 231 = (2, 240) := by rw [h.1]; rfl
theorem ly_t232 (h : Lay pl L M) : mT M 232 = (2, 240) := by rw [h.1]; rfl
theorem ly_t233 (h : Lay pl L M) : mT M 233 = (4, 300) := by rw [h.1]; rfl
theorem ly_t234 (h : Lay pl L M) : mT M 234 = (2, 6) := by rw [h.1]; rfl
theorem ly_t235 (h : Lay pl L M) : mT M 235 = (2, 120) := by rw [h.1]; rfl
theorem ly_t236 (h : Lay pl L M) : mT M 236 = (2, 120) := by rw [h.1]; rfl
theorem ly_t237 (h : Lay pl L M) : mT M 237 = (2, 120) := by rw [h.1]; rfl
theorem ly_t238 (h : Lay pl L M) : mT M 238 = (2, 120) := by rw [h.1]; rfl
theorem ly_t239 (h : Lay pl L M) : mT M 239 = (2, 120) := by rw [h.1]; rfl
theorem ly_t240 (h : Lay pl L M) : mT M 240 = (2, 120) := by rw [h.1]; rfl
theorem ly_t241 (h : Lay pl L M) : mT M 241 = (2, 2400) := by rw [h.1]; rfl
theorem ly_t242 (h : Lay pl L M) : mT M 242 = (2, 2400) := by rw [h.1]; rfl
theorem ly_t243 (h : Lay pl L M) : mT M 243 = (2, 40) := by rw [h.1]; rfl
theorem ly_t244 (h : Lay pl L M) : mT M 244 = (2, 41) := by rw [h.1]; rfl
theorem ly_t245 (h : Lay pl L M) : mT M 245 = (2, 80) := by rw [h.1]; rfl
theorem ly_t246 (h : Lay pl L M) : mT M 246 = (2, 80) := by rw [h.1]; rfl
theorem ly_t247 (h : Lay pl L M) : mT M 247 = (2, 20) := by rw [h.1]; rfl
theorem ly_t248 (h : Lay pl L M) : mT M 248 = (2, 20) := by rw [h.1]; rfl
theorem ly_t249 (h : Lay pl L M) : mT M 249 = (2, 80) := by rw [h.1]; rfl
theorem ly_t250 (h : Lay pl L M) : mT M 250 = (2, 400) := by rw [h.1]; rfl
theorem ly_t251 (h : Lay pl L M) : mT M 251 = (2, 400) := by rw [h.1]; rfl
theorem ly_t252 (h : Lay pl L M) : mT M 252 = (2, 7) := by rw [h.1]; rfl
theorem ly_t253 (h : Lay pl L M) : mT M 253 = (3, 200) := by rw [h.1]; rfl
theorem ly_t254 (h : Lay pl L M) : mT M 254 = (2, 12) := by rw [h.1]; rfl
theorem ly_t255 (h : Lay pl L M) : mT M 255 = (2, 8) := by rw [h.1]; rfl
theorem ly_t256 (h : Lay pl L M) : mT M 256 = (2, 8) := by rw [h.1]; rfl
theorem ly_t257 (h : Lay pl L M) : mT M 257 = (2, 8) := by rw [h.1]; rfl
theorem ly_t258 (h : Lay pl L M) : mT M 258 = (2, 8) := by rw [h.1]; rfl
theorem ly_t259 (h : Lay pl L M) : mT M 259 = (3, 8) := by rw [h.1]; rfl
theorem ly_t260 (h : Lay pl L M) : mT M 260 = (3, 41) := by rw [h.1]; rfl
theorem ly_t261 (h : Lay pl L M) : mT M 261 = (2, 41) := by rw [h.1]; rfl
theorem ly_t262 (h : Lay pl L M) : mT M 262 = (3, 2000) := by rw [h.1]; rfl
theorem ly_t263 (h : Lay pl L M) : mT M 263 = (2, 2000) := by rw [h.1]; rfl
theorem ly_t264 (h : Lay pl L M) : mT M 264 = (2, 128000) := by rw [h.1]; rfl
theorem ly_t265 (h : Lay pl L M) : mT M 265 = (2, 2000) := by rw [h.1]; rfl
theorem ly_t266 (h : Lay pl L M) : mT M 266 = (2, 2000) := by rw [h.1]; rfl
theorem ly_t267 (h : Lay pl L M) : mT M 267 = (2, 8192) := by rw [h.1]; rfl
theorem ly_t268 (h : Lay pl L M) : mT M 268 = (2, 2000) := by rw [h.1]; rfl
theorem ly_t269 (h : Lay pl L M) : mT M 269 = (5, 2000) := by rw [h.1]; rfl
theorem ly_t1 (h : Lay pl L M) : mT M 1 = (8, 12) := by rw [h.1]; rfl
theorem ly_t2 (h : Lay pl L M) : mT M 2 = (9, 0) := by rw [h.1]; rfl
theorem ly_t3 (h : Lay pl L M) : mT M 3 = (9, 0) := by rw [h.1]; rfl
theorem ly_t4 (h : Lay pl L M) : mT M 4 = (10, 107) := by rw [h.1]; rfl
theorem ly_t5 (h : Lay pl L M) : mT M 5 = (10, 12) := by rw [h.1]; rfl
theorem ly_t6 (h : Lay pl L M) : mT M 6 = (11, 0) := by rw [h.1]; rfl
theorem ly_t0 (h : Lay pl L M) : mT M 0 = (8, L) := by rw [h.1]; rfl
theorem ly_r8_2 (h : Lay pl L M) : mR M 8 2 = some 9 := h.2.2.1 (8, 2, 9) (by decide)
theorem ly_r8_3 (h : Lay pl L M) : mR M 8 3 = some 13 := h.2.2.1 (8, 3, 13) (by decide)
theorem ly_r8_4 (h : Lay pl L M) : mR M 8 4 = some 17 := h.2.2.1 (8, 4, 17) (by decide)
theorem ly_r8_5 (h : Lay pl L M) : mR M 8 5 = some 18 := h.2.2.1 (8, 5, 18) (by decide)
theorem ly_r8_6 (h : Lay pl L M) : mR M 8 6 = some 43 := h.2.2.1 (8, 6, 43) (by decide)
theorem ly_r8_7 (h : Lay pl L M) : mR M 8 7 = some 45 := h.2.2.1 (8, 7, 45) (by decide)
theorem ly_r8_8 (h : Lay pl L M) : mR M 8 8 = some 203 := h.2.2.1 (8, 8, 203) (by decide)
theorem ly_r8_9 (h : Lay pl L M) : mR M 8 9 = some 209 := h.2.2.1 (8, 9, 209) (by decide)
theorem ly_r8_10 (h : Lay pl L M) : mR M 8 10 = some 211 := h.2.2.1 (8, 10, 211) (by decide)
theorem ly_r8_11 (h : Lay pl L M) : mR M 8 11 = some 220 := h.2.2.1 (8, 11, 220) (by decide)
theorem ly_r8_12 (h : Lay pl L M) : mR M 8 12 = some 47 := h.2.2.1 (8, 12, 47) (by decide)
theorem ly_r8_13 (h : Lay pl L M) : mR M 8 13 = some 48 := h.2.2.1 (8, 13, 48) (by decide)
theorem ly_r8_14 (h : Lay pl L M) : mR M 8 14 = some 49 := h.2.2.1 (8, 14, 49) (by decide)
theorem ly_r9_0 (h : Lay pl L M) : mR M 9 0 = some 10 := h.2.2.1 (9, 0, 10) (by decide)
theorem ly_r9_1 (h : Lay pl L M) : mR M 9 1 = some 11 := h.2.2.1 (9, 1, 11) (by decide)
theorem ly_r9_2 (h : Lay pl L M) : mR M 9 2 = some 12 := h.2.2.1 (9, 2, 12) (by decide)
theorem ly_r13_0 (h : Lay pl L M) : mR M 13 0 = some 14 := h.2.2.1 (13, 0, 14) (by decide)
theorem ly_r13_1 (h : Lay pl L M) : mR M 13 1 = some 15 := h.2.2.1 (13, 1, 15) (by decide)
theorem ly_r13_2 (h : Lay pl L M) : mR M 13 2 = some 16 := h.2.2.1 (13, 2, 16) (by decide)
theorem ly_r18_0 (h : Lay pl L M) : mR M 18 0 = some 19 := h.2.2.1 (18, 0, 19) (by decide)
theorem ly_r18_1 (h : Lay pl L M) : mR M 18 1 = some 20 := h.2.2.1 (18, 1, 20) (by decide)
theorem ly_r18_2 (h : Lay pl L M) : mR M 18 2 = some 21 := h.2.2.1 (18, 2, 21) (by decide)
theorem ly_r18_3 (h : Lay pl L M) : mR M 18 3 = some 22 := h.2.2.1 (18, 3, 22) (by decide)
theorem ly_r43_0 (h : Lay pl L M) : mR M 43 0 = some 44 := h.2.2.1 (43, 0, 44) (by decide)
theorem ly_r45_0 (h : Lay pl L M) : mR M 45 0 = some 46 := h.2.2.1 (45, 0, 46) (by decide)
theorem ly_r200_0 (h : Lay pl L M) : mR M 200 0 = some 201 := h.2.2.1 (200, 0, 201) (by decide)
theorem ly_r200_1 (h : Lay pl L M) : mR M 200 1 = some 202 := h.2.2.1 (200, 1, 202) (by decide)
theorem ly_r203_0 (h : Lay pl L M) : mR M 203 0 = some 204 := h.2.2.1 (203, 0, 204) (by decide)
theorem ly_r203_1 (h : Lay pl L M) : mR M 203 1 = some 205 := h.2.2.1 (203, 1, 205) (by decide)
theorem ly_r203_2 (h : Lay pl L M) : mR M 203 2 = some 206 := h.2.2.1 (203, 2, 206) (by decide)
theorem ly_r203_5 (h : Lay pl L M) : mR M 203 5 = some 208 := h.2.2.1 (203, 5, 208) (by decide)
theorem ly_r203_6 (h : Lay pl L M) : mR M 203 6 = some 207 := h.2.2.1 (203, 6, 207) (by decide)
theorem ly_r203_7 (h : Lay pl L M) : mR M 203 7 = some 200 := h.2.2.1 (203, 7, 200) (by decide)
theorem ly_r209_2 (h : Lay pl L M) : mR M 209 2 = some 203 := h.2.2.1 (209, 2, 203) (by decide)
theorem ly_r209_3 (h : Lay pl L M) : mR M 209 3 = some 200 := h.2.2.1 (209, 3, 200) (by decide)
theorem ly_r209_4 (h : Lay pl L M) : mR M 209 4 = some 45 := h.2.2.1 (209, 4, 45) (by decide)
theorem ly_r209_5 (h : Lay pl L M) : mR M 209 5 = some 210 := h.2.2.1 (209, 5, 210) (by decide)
theorem ly_r211_0 (h : Lay pl L M) : mR M 211 0 = some 212 := h.2.2.1 (211, 0, 212) (by decide)
theorem ly_r211_1 (h : Lay pl L M) : mR M 211 1 = some 213 := h.2.2.1 (211, 1, 213) (by decide)
theorem ly_r211_4 (h : Lay pl L M) : mR M 211 4 = some 214 := h.2.2.1 (211, 4, 214) (by decide)
theorem ly_r211_5 (h : Lay pl L M) : mR M 211 5 = some 215 := h.2.2.1 (211, 5, 215) (by decide)
theorem ly_r211_6 (h : Lay pl L M) : mR M 211 6 = some 216 := h.2.2.1 (211, 6, 216) (by decide)
theorem ly_r211_7 (h : Lay pl L M) : mR M 211 7 = some 203 := h.2.2.1 (211, 7, 203) (by decide)
theorem ly_r211_8 (h : Lay pl L M) : mR M 211 8 = some 217 := h.2.2.1 (211, 8, 217) (by decide)
theorem ly_r211_9 (h : Lay pl L M) : mR M 211 9 = some 218 := h.2.2.1 (211, 9, 218) (by decide)
theorem ly_r211_10 (h : Lay pl L M) : mR M 211 10 = some 219 := h.2.2.1 (211, 10, 219) (by decide)
theorem ly_r220_0 (h : Lay pl L M) : mR M 220 0 = some 221 := h.2.2.1 (220, 0, 221) (by decide)
theorem ly_r220_1 (h : Lay pl L M) : mR M 220 1 = some 222 := h.2.2.1 (220, 1, 222) (by decide)
theorem ly_r220_2 (h : Lay pl L M) : mR M 220 2 = some 211 := h.2.2.1 (220, 2, 211) (by decide)
theorem ly_r220_3 (h : Lay pl L M) : mR M 220 3 = some 45 := h.2.2.1 (220, 3, 45) (by decide)
theorem ly_r220_4 (h : Lay pl L M) : mR M 220 4 = some 223 := h.2.2.1 (220, 4, 223) (by decide)
theorem ly_r220_5 (h : Lay pl L M) : mR M 220 5 = some 224 := h.2.2.1 (220, 5, 224) (by decide)
theorem ly_r220_6 (h : Lay pl L M) : mR M 220 6 = some 225 := h.2.2.1 (220, 6, 225) (by decide)
theorem ly_r220_7 (h : Lay pl L M) : mR M 220 7 = some 226 := h.2.2.1 (220, 7, 226) (by decide)
theorem ly_r220_8 (h : Lay pl L M) : mR M 220 8 = some 227 := h.2.2.1 (220, 8, 227) (by decide)
theorem ly_r220_9 (h : Lay pl L M) : mR M 220 9 = some 228 := h.2.2.1 (220, 9, 228) (by decide)
theorem ly_r220_10 (h : Lay pl L M) : mR M 220 10 = some 229 := h.2.2.1 (220, 10, 229) (by decide)
theorem ly_r230_3 (h : Lay pl L M) : mR M 230 3 = some 231 := h.2.2.1 (230, 3, 231) (by decide)
theorem ly_r230_4 (h : Lay pl L M) : mR M 230 4 = some 232 := h.2.2.1 (230, 4, 232) (by decide)
theorem ly_r230_5 (h : Lay pl L M) : mR M 230 5 = some 233 := h.2.2.1 (230, 5, 233) (by decide)
theorem ly_r230_9 (h : Lay pl L M) : mR M 230 9 = some 234 := h.2.2.1 (230, 9, 234) (by decide)
theorem ly_r230_10 (h : Lay pl L M) : mR M 230 10 = some 235 := h.2.2.1 (230, 10, 235) (by decide)
theorem ly_r230_11 (h : Lay pl L M) : mR M 230 11 = some 236 := h.2.2.1 (230, 11, 236) (by decide)
theorem ly_r230_12 (h : Lay pl L M) : mR M 230 12 = some 237 := h.2.2.1 (230, 12, 237) (by decide)
theorem ly_r230_13 (h : Lay pl L M) : mR M 230 13 = some 238 := h.2.2.1 (230, 13, 238) (by decide)
theorem ly_r230_14 (h : Lay pl L M) : mR M 230 14 = some 239 := h.2.2.1 (230, 14, 239) (by decide)
theorem ly_r230_15 (h : Lay pl L M) : mR M 230 15 = some 240 := h.2.2.1 (230, 15, 240) (by decide)
theorem ly_r230_16 (h : Lay pl L M) : mR M 230 16 = some 241 := h.2.2.1 (230, 16, 241) (by decide)
theorem ly_r230_17 (h : Lay pl L M) : mR M 230 17 = some 242 := h.2.2.1 (230, 17, 242) (by decide)
theorem ly_r230_27 (h : Lay pl L M) : mR M 230 27 = some 243 := h.2.2.1 (230, 27, 243) (by decide)
theorem ly_r230_28 (h : Lay pl L M) : mR M 230 28 = some 244 := h.2.2.1 (230, 28, 244) (by decide)
theorem ly_r230_30 (h : Lay pl L M) : mR M 230 30 = some 245 := h.2.2.1 (230, 30, 245) (by decide)
theorem ly_r230_31 (h : Lay pl L M) : mR M 230 31 = some 246 := h.2.2.1 (230, 31, 246) (by decide)
theorem ly_r230_35 (h : Lay pl L M) : mR M 230 35 = some 247 := h.2.2.1 (230, 35, 247) (by decide)
theorem ly_r230_36 (h : Lay pl L M) : mR M 230 36 = some 248 := h.2.2.1 (230, 36, 248) (by decide)
theorem ly_r230_37 (h : Lay pl L M) : mR M 230 37 = some 249 := h.2.2.1 (230, 37, 249) (by decide)
theorem ly_r230_39 (h : Lay pl L M) : mR M 230 39 = some 250 := h.2.2.1 (230, 39, 250) (by decide)
theorem ly_r230_40 (h : Lay pl L M) : mR M 230 40 = some 251 := h.2.2.1 (230, 40, 251) (by decide)
theorem ly_r230_41 (h : Lay pl L M) : mR M 230 41 = some 252 := h.2.2.1 (230, 41, 252) (by decide)
theorem ly_r230_42 (h : Lay pl L M) : mR M 230 42 = some 253 := h.2.2.1 (230, 42, 253) (by decide)
theorem ly_r230_43 (h : Lay pl L M) : mR M 230 43 = some 254 := h.2.2.1 (230, 43, 254) (by decide)
theorem ly_r230_44 (h : Lay pl L M) : mR M 230 44 = some 255 := h.2.2.1 (230, 44, 255) (by decide)
theorem ly_r230_50 (h : Lay pl L M) : mR M 230 50 = some 256 := h.2.2.1 (230, 50, 256) (by decide)
theorem ly_r230_51 (h : Lay pl L M) : mR M 230 51 = some 257 := h.2.2.1 (230, 51, 257) (by decide)
theorem ly_r230_52 (h : Lay pl L M) : mR M 230 52 = some 258 := h.2.2.1 (230, 52, 258) (by decide)
theorem ly_r230_54 (h : Lay pl L M) : mR M 230 54 = some 259 := h.2.2.1 (230, 54, 259) (by decide)
theorem ly_r230_55 (h : Lay pl L M) : mR M 230 55 = some 260 := h.2.2.1 (230, 55, 260) (by decide)
theorem ly_r230_56 (h : Lay pl L M) : mR M 230 56 = some 261 := h.2.2.1 (230, 56, 261) (by decide)
theorem ly_r230_59 (h : Lay pl L M) : mR M 230 59 = some 262 := h.2.2.1 (230, 59, 262) (by decide)
theorem ly_r230_60 (h : Lay pl L M) : mR M 230 60 = some 263 := h.2.2.1 (230, 60, 263) (by decide)
theorem ly_r230_61 (h : Lay pl L M) : mR M 230 61 = some 264 := h.2.2.1 (230, 61, 264) (by decide)
theorem ly_r230_62 (h : Lay pl L M) : mR M 230 62 = some 265 := h.2.2.1 (230, 62, 265) (by decide)
theorem ly_r230_63 (h : Lay pl L M) : mR M 230 63 = some 266 := h.2.2.1 (230, 63, 266) (by decide)
theorem ly_r230_64 (h : Lay pl L M) : mR M 230 64 = some 267 := h.2.2.1 (230, 64, 267) (by decide)
theorem ly_r230_65 (h : Lay pl L M) : mR M 230 65 = some 268 := h.2.2.1 (230, 65, 268) (by decide)
theorem ly_r230_69 (h : Lay pl L M) : mR M 230 69 = some 269 := h.2.2.1 (230, 69, 269) (by decide)
theorem ly_ty : ∀ (pl L t : Nat), t < 6 → TYF pl L (rA t) = (1, 6) ∧ TYF pl L (rA t + 1) = (6, 20) ∧ TYF pl L (rA t + 2) = (6, 8) ∧ TYF pl L (rA t + 3) = (6, 4) ∧ TYF pl L (rA t + 4) = (2, 300) ∧ ∀ i, i < 20 → TYF pl L (rA t + 5 + i) = (1, 1) := by
  intro pl L t ht
  rcases (show t = 0 ∨ t = 1 ∨ t = 2 ∨ t = 3 ∨ t = 4 ∨ t = 5 by omega) with rfl | rfl | rfl | rfl | rfl | rfl <;> (refine ⟨rfl, rfl, rfl, rfl, rfl, fun i hi => ?_⟩; rcases (show i = 0 ∨ i = 1 ∨ i = 2 ∨ i = 3 ∨ i = 4 ∨ i = 5 ∨ i = 6 ∨ i = 7 ∨ i = 8 ∨ i = 9 ∨ i = 10 ∨ i = 11 ∨ i = 12 ∨ i = 13 ∨ i = 14 ∨ i = 15 ∨ i = 16 ∨ i = 17 ∨ i = 18 ∨ i = 19 by omega) with rfl | rfl | rfl | rfl | rfl | rfl | rfl | rfl | rfl | rfl | rfl | rfl | rfl | rfl | rfl | rfl | rfl | rfl | rfl | rfl <;> rfl)
theorem ly_18 : ∀ (pl L : Nat), TYF pl L 18 = (1, 6) ∧ TYF pl L 19 = (6, 20) ∧ TYF pl L 20 = (6, 8) ∧ TYF pl L 21 = (6, 4) ∧ TYF pl L 22 = (2, 300) ∧ ∀ i, i < 20 → TYF pl L (23 + i) = (1, 1) := by
  intro pl L
  refine ⟨rfl, rfl, rfl, rfl, rfl, fun i hi => ?_⟩
  rcases (show i = 0 ∨ i = 1 ∨ i = 2 ∨ i = 3 ∨ i = 4 ∨ i = 5 ∨ i = 6 ∨ i = 7 ∨ i = 8 ∨ i = 9 ∨ i = 10 ∨ i = 11 ∨ i = 12 ∨ i = 13 ∨ i = 14 ∨ i = 15 ∨ i = 16 ∨ i = 17 ∨ i = 18 ∨ i = 19 by omega) with rfl | rfl | rfl | rfl | rfl | rfl | rfl | rfl | rfl | rfl | rfl | rfl | rfl | rfl | rfl | rfl | rfl | rfl | rfl | rfl <;> rfl
/-- the cells of any rules -/
theorem ly_ra (h : Lay pl L M) {r : Nat} (hr : isRA r) : mT M r = (1, 6) ∧ mT M (r + 1) = (6, 20) ∧ mT M (r + 2) = (6, 8) ∧ mT M (r + 3) = (6, 4) ∧ mT M (r + 4) = (2, 300) ∧ ∀ i, i < 20 → mT M (r + 5 + i) = (1, 1) := by
  rw [h.1]
  rcases hr with rfl | ⟨t, ht, rfl⟩
  · exact ly_18 pl L
  · exact ly_ty pl L t ht
end LY
