theorem dL_law__1215 : decode cL_law_ 1215 = .ok (.aload_n 1, 1) := by decide +kernel
theorem dL_law__1216 : decode cL_law_ 1216 = .ok (.aload_n 0, 1) := by decide +kernel
theorem dL_law__1217 : decode cL_law_ 1217 = .ok (.iload 4, 2) := by decide +kernel
theorem dL_law__1219 : decode cL_law_ 1219 = .ok (.iconst 1, 1) := by decide +kernel
theorem dL_law__1220 : decode cL_law_ 1220 = .ok (.iadd, 1) := by decide +kernel
theorem dL_law__1221 : decode cL_law_ 1221 = .ok (.iaload, 1) := by decide +kernel
theorem dL_law__1222 : decode cL_law_ 1222 = .ok (.aload_n 3, 1) := by decide +kernel
theorem dL_law__1223 : decode cL_law_ 1223 = .ok (.invokestatic 222, 3) := by decide +kernel
theorem dL_law__1226 : decode cL_law_ 1226 = .ok (.istore 5, 2) := by decide +kernel
theorem dL_law__1228 : decode cL_law_ 1228 = .ok (.aload_n 2, 1) := by decide +kernel
theorem dL_law__1229 : decode cL_law_ 1229 = .ok (.aload_n 0, 1) := by decide +kernel
theorem dL_law__1230 : decode cL_law_ 1230 = .ok (.iload 4, 2) := by decide +kernel
theorem dL_law__1232 : decode cL_law_ 1232 = .ok (.iconst 1, 1) := by decide +kernel
theorem dL_law__1233 : decode cL_law_ 1233 = .ok (.iadd, 1) := by decide +kernel
theorem dL_law__1234 : decode cL_law_ 1234 = .ok (.iaload, 1) := by decide +kernel
theorem dL_law__1235 : decode cL_law_ 1235 = .ok (.invokevirtual 224, 3) := by decide +kernel
theorem dL_law__1238 : decode cL_law_ 1238 = .ok (.istore 6, 2) := by decide +kernel
theorem dL_law__1240 : decode cL_law_ 1240 = .ok (.aload_n 2, 1) := by decide +kernel
theorem dL_law__1241 : decode cL_law_ 1241 = .ok (.invokevirtual 175, 3) := by decide +kernel
theorem dL_law__1244 : decode cL_law_ 1244 = .ok (.iload 5, 2) := by decide +kernel
theorem dL_law__1246 : decode cL_law_ 1246 = .ok (.if_icmp .eq 5, 3) := by decide +kernel
theorem dL_law__1249 : decode cL_law_ 1249 = .ok (.iconst 0, 1) := by decide +kernel
theorem dL_law__1251 : decode cL_law_ 1251 = .ok (.iload 5, 2) := by decide +kernel
theorem dL_law__1253 : decode cL_law_ 1253 = .ok (.ifCond .ne 15, 3) := by decide +kernel
theorem dL_law__1256 : decode cL_law_ 1256 = .ok (.aload_n 3, 1) := by decide +kernel
theorem dL_law__1257 : decode cL_law_ 1257 = .ok (.iconst 0, 1) := by decide +kernel
theorem dL_law__1258 : decode cL_law_ 1258 = .ok (.laload, 1) := by decide +kernel
theorem dL_law__1259 : decode cL_law_ 1259 = .ok (.iload 6, 2) := by decide +kernel
theorem dL_law__1261 : decode cL_law_ 1261 = .ok (.i2l, 1) := by decide +kernel
theorem dL_law__1262 : decode cL_law_ 1262 = .ok (.lcmp, 1) := by decide +kernel
theorem dL_law__1263 : decode cL_law_ 1263 = .ok (.ifCond .eq 5, 3) := by decide +kernel
theorem dL_law__1266 : decode cL_law_ 1266 = .ok (.iconst 0, 1) := by decide +kernel
theorem dL_law__1268 : decode cL_law_ 1268 = .ok (.goto 2265, 3) := by decide +kernel
def m_L_case_13 (xs : Nat → Int) (L : Nat) (kc : Int → D9 → Option R9) (v4 : Int) (d : D9) : Option R9 := scr xs L (v4 + 1) (fun t1 => cz (m_L_sort t1 d) (fun r2 d3 => scr xs L (v4 + 1) (fun t4 => cz (m_X12_sort_174 t4 d3) (fun r5 d6 => cz (m_X12_thrown_174 d6) (fun r7 d8 => if w32 r7 = w32 r2 then if w32 r2 ≠ 0 then kc (v4 + 7) d8 else ld d8 194 1 0 (fun t9 => if w64 t9 = w64 (w32 r5) then kc (v4 + 7) d8 else none) else none)))))
set_option maxRecDepth 100000 in
theorem s_L_case_13 {G : G9} {X : X9} (C : CX G X cL_law_ 8 RL [] zL9) (hNc : NC9 (xS X)) {b L : Nat} {xs : Nat → Int} (hSC : SCX G X b L xs) {k n : Nat} (hk : k + 12 ≤ 601024) (hn : n + 80 ≤ 7293034) (kc : Int → D9 → Option R9) (hkc : ∀ (v4 : Int) (d : D9), SS G X 8 (k + 12) (n + 80) 23 [(0, scf b), (1, rf G 0), (2, rf G 174), (3, rf G 194), (4, i9 v4)] [] d (kc v4 d)) : ∀ (v4 : Int) (d : D9), SS G X 8 k n 1215 [(0, scf b), (1, rf G 0), (2, rf G 174), (3, rf G 194), (4, i9 v4)] [] d (m_L_case_13 xs L kc v4 d) := by
  intro v4 d
  unfold m_L_case_13
  refine r_aload_n C 1 dL_law__1215 rfl rfl ?_
  refine r_aload_nC C 0 dL_law__1216 rfl rfl ?_
  refine r_iload C 4 dL_law__1217 rfl ?_
  refine r_iconst C dL_law__1219 ?_
  refine r_iadd C dL_law__1220 ?_
  refine r_scld C hSC dL_law__1221 (fun t1 => ?_)
  refine r_aload_n C 3 dL_law__1222 rfl rfl ?_
  refine r_callHL C hNc [rf G 194, i9 t1, rf G 0] dL_law__1223 (t_L_sort C.h1 C.h2 t1 d) mwh_L_222 (by decide) (show k + 1 ≤ 601024 by omega) (show n + 6 ≤ 7293034 by omega) rfl rfl (Nat.le_of_ble_eq_true rfl) (fun r2 d3 => ?_)
  show SS G X 8 (k + 1) (n + 6) 1226 [(0, scf b), (1, rf G 0), (2, rf G 174), (3, rf G 194), (4, i9 v4)] [i9 r2] d3 _
  refine r_istore C [(5, i9 r2), (0, scf b), (1, rf G 0), (2, rf G 174), (3, rf G 194), (4, i9 v4)] dL_law__1226 (by decide) rfl ?_
  refine r_aload_n C 3 dL_law__1228 rfl rfl ?_
  refine r_aload_nC C 1 dL_law__1229 rfl rfl ?_
  refine r_iload C 5 dL_law__1230 rfl ?_
  refine r_iconst C dL_law__1232 ?_
  refine r_iadd C dL_law__1233 ?_
  refine r_scld C hSC dL_law__1234 (fun t4 => ?_)
  refine r_callVL C [i9 t4, rf G 174] dL_law__1235 (t_X12_sort_174 C.h1 C.h2 t4 d3) mw_L_224 mv_X12_sort la_174 ly_174 rfl (by decide) (show k + 1 + 0 ≤ 601024 by omega) (show n + 6 + 0 ≤ 7293034 by omega) rfl rfl (Nat.le_of_ble_eq_true rfl) (fun r5 d6 => ?_)
  show SS G X 8 (k + 1 + 0) (n + 6 + 0) 1238 [(5, i9 r2), (0, scf b), (1, rf G 0), (2, rf G 174), (3, rf G 194), (4, i9 v4)] [i9 r5] d6 _
  refine r_istore C [(6, i9 r5), (5, i9 r2), (0, scf b), (1, rf G 0), (2, rf G 174), (3, rf G 194), (4, i9 v4)] dL_law__1238 (by decide) rfl ?_
  refine r_aload_n C 4 dL_law__1240 rfl rfl ?_
  refine r_callVL C [rf G 174] dL_law__1241 (t_X12_thrown_174 C.h1 C.h2 d6) mw_L_175 mv_X12_thrown la_174 ly_174 rfl (by decide) (show k + 1 + 0 + 0 ≤ 601024 by omega) (show n + 6 + 0 + 0 ≤ 7293034 by omega) rfl rfl (Nat.le_of_ble_eq_true rfl) (fun r7 d8 => ?_)
  show SS G X 8 (k + 1 + 0 + 0) (n + 6 + 0 + 0) 1244 [(6, i9 r5), (5, i9 r2), (0, scf b), (1, rf G 0), (2, rf G 174), (3, rf G 194), (4, i9 v4)] [i9 r7] d8 _
  refine r_iload C 1 dL_law__1244 rfl ?_
  refine r_icmp_eq C 1251 dL_law__1246 (by decide) (fun _ => ?_) (fun _ => ?_)
  · refine r_iload C 1 dL_law__1251 rfl ?_
    refine r_if_ne C (b := 0) 1268 dL_law__1253 (by decide) (fun _ => ?_) (fun _ => ?_)
    · refine r_goto C 3533 dL_law__1268 (by decide) ?_
      refine r_iinc C 6 [(4, i9 (v4 + 7)), (6, i9 r5), (5, i9 r2), (0, scf b), (1, rf G 0), (2, rf G 174), (3, rf G 194)] dL_law__3533 rfl (by decide) rfl ?_
      refine r_goto C 23 dL_law__3536 (by decide) ?_
      refine ss_wide (k' := k + 12) (n' := n + 80) (show k + 1 + 0 + 0 ≤ k + 12 by omega) (show n + 6 + 0 + 0 ≤ n + 80 by omega) ?_
      refine ss_ls [(0, scf b), (1, rf G 0), (2, rf G 174), (3, rf G 194), (4, i9 (v4 + 7))] [3, 4, 5, 6, 0] rfl ?_
      exact hkc (v4 + 7) d8
    · refine r_aload_n C 5 dL_law__1256 rfl rfl ?_
      refine r_iconst C dL_law__1257 ?_
      refine r_lald C dL_law__1258 la_194 ly_194 (fun t9 => ?_)
      refine r_iload C 0 dL_law__1259 rfl ?_
      refine r_i2l C dL_law__1261 ?_
      refine r_lcmp_eq C 1268 dL_law__1262 dL_law__1263 (by decide) (fun _ => ?_) (fun _ => ?_)
      · refine r_goto C 3533 dL_law__1268 (by decide) ?_
        refine r_iinc C 6 [(4, i9 (v4 + 7)), (6, i9 r5), (5, i9 r2), (0, scf b), (1, rf G 0), (2, rf G 174), (3, rf G 194)] dL_law__3533 rfl (by decide) rfl ?_
        refine r_goto C 23 dL_law__3536 (by decide) ?_
        refine ss_wide (k' := k + 12) (n' := n + 80) (show k + 1 + 0 + 0 ≤ k + 12 by omega) (show n + 6 + 0 + 0 ≤ n + 80 by omega) ?_
        refine ss_ls [(0, scf b), (1, rf G 0), (2, rf G 174), (3, rf G 194), (4, i9 (v4 + 7))] [3, 4, 5, 6, 0] rfl ?_
        exact hkc (v4 + 7) d8
      · refine r_iconst C dL_law__1266 ?_
        exact ss_none
  · refine r_iconst C dL_law__1249 ?_
    exact ss_none
theorem dL_law__1271 : decode cL_law_ 1271 = .ok (.aload_n 1, 1) := by decide +kernel
theorem dL_law__1272 : decode cL_law_ 1272 = .ok (.aload_n 0, 1) := by decide +kernel
theorem dL_law__1273 : decode cL_law_ 1273 = .ok (.iload 4, 2) := by decide +kernel
theorem dL_law__1275 : decode cL_law_ 1275 = .ok (.iconst 1, 1) := by decide +kernel
theorem dL_law__1276 : decode cL_law_ 1276 = .ok (.iadd, 1) := by decide +kernel
theorem dL_law__1277 : decode cL_law_ 1277 = .ok (.iaload, 1) := by decide +kernel
theorem dL_law__1278 : decode cL_law_ 1278 = .ok (.aload_n 3, 1) := by decide +kernel
theorem dL_law__1279 : decode cL_law_ 1279 = .ok (.invokestatic 225, 3) := by decide +kernel
theorem dL_law__1282 : decode cL_law_ 1282 = .ok (.istore 5, 2) := by decide +kernel
theorem dL_law__1284 : decode cL_law_ 1284 = .ok (.aload_n 2, 1) := by decide +kernel
theorem dL_law__1285 : decode cL_law_ 1285 = .ok (.aload_n 0, 1) := by decide +kernel
theorem dL_law__1286 : decode cL_law_ 1286 = .ok (.iload 4, 2) := by decide +kernel
theorem dL_law__1288 : decode cL_law_ 1288 = .ok (.iconst 1, 1) := by decide +kernel
theorem dL_law__1289 : decode cL_law_ 1289 = .ok (.iadd, 1) := by decide +kernel
theorem dL_law__1290 : decode cL_law_ 1290 = .ok (.iaload, 1) := by decide +kernel
theorem dL_law__1291 : decode cL_law_ 1291 = .ok (.invokevirtual 227, 3) := by decide +kernel
theorem dL_law__1294 : decode cL_law_ 1294 = .ok (.istore 6, 2) := by decide +kernel
theorem dL_law__1296 : decode cL_law_ 1296 = .ok (.aload_n 2, 1) := by decide +kernel
theorem dL_law__1297 : decode cL_law_ 1297 = .ok (.invokevirtual 175, 3) := by decide +kernel
theorem dL_law__1300 : decode cL_law_ 1300 = .ok (.iload 5, 2) := by decide +kernel
theorem dL_law__1302 : decode cL_law_ 1302 = .ok (.if_icmp .eq 5, 3) := by decide +kernel
theorem dL_law__1305 : decode cL_law_ 1305 = .ok (.iconst 0, 1) := by decide +kernel
theorem dL_law__1307 : decode cL_law_ 1307 = .ok (.iload 5, 2) := by decide +kernel
theorem dL_law__1309 : decode cL_law_ 1309 = .ok (.ifCond .ne 15, 3) := by decide +kernel
theorem dL_law__1312 : decode cL_law_ 1312 = .ok (.aload_n 3, 1) := by decide +kernel
theorem dL_law__1313 : decode cL_law_ 1313 = .ok (.iconst 0, 1) := by decide +kernel
theorem dL_law__1314 : decode cL_law_ 1314 = .ok (.laload, 1) := by decide +kernel
theorem dL_law__1315 : decode cL_law_ 1315 = .ok (.iload 6, 2) := by decide +kernel
theorem dL_law__1317 : decode cL_law_ 1317 = .ok (.i2l, 1) := by decide +kernel
theorem dL_law__1318 : decode cL_law_ 1318 = .ok (.lcmp, 1) := by decide +kernel
theorem dL_law__1319 : decode cL_law_ 1319 = .ok (.ifCond .eq 5, 3) := by decide +kernel
theorem dL_law__1322 : decode cL_law_ 1322 = .ok (.iconst 0, 1) := by decide +kernel
theorem dL_law__1324 : decode cL_law_ 1324 = .ok (.goto 2209, 3) := by decide +kernel
def m_L_case_14 (xs : Nat → Int) (L : Nat) (kc : Int → D9 → Option R9) (v4 : Int) (d : D9) : Option R9 := scr xs L (v4 + 1) (fun t1 => cz (m_L_says t1 d) (fun r2 d3 => scr xs L (v4 + 1) (fun t4 => cz (m_X12_says_174 t4 d3) (fun r5 d6 => cz (m_X12_thrown_174 d6) (fun r7 d8 => if w32 r7 = w32 r2 then if w32 r2 ≠ 0 then kc (v4 + 7) d8 else ld d8 194 1 0 (fun t9 => if w64 t9 = w64 (w32 r5) then kc (v4 + 7) d8 else none) else none)))))
set_option maxRecDepth 100000 in
theorem s_L_case_14 {G : G9} {X : X9} (C : CX G X cL_law_ 8 RL [] zL9) (hNc : NC9 (xS X)) {b L : Nat} {xs : Nat → Int} (hSC : SCX G X b L xs) {k n : Nat} (hk : k + 12 ≤ 601024) (hn : n + 80 ≤ 7293034) (kc : Int → D9 → Option R9) (hkc : ∀ (v4 : Int) (d : D9), SS G X 8 (k + 12) (n + 80) 23 [(0, scf b), (1, rf G 0), (2, rf G 174), (3, rf G 194), (4, i9 v4)] [] d (kc v4 d)) : ∀ (v4 : Int) (d : D9), SS G X 8 k n 1271 [(0, scf b), (1, rf G 0), (2, rf G 174), (3, rf G 194), (4, i9 v4)] [] d (m_L_case_14 xs L kc v4 d) := by
  intro v4 d
  unfold m_L_case_14
  refine r_aload_n C 1 dL_law__1271 rfl rfl ?_
  refine r_aload_nC C 0 dL_law__1272 rfl rfl ?_
  refine r_iload C 4 dL_law__1273 rfl ?_
  refine r_iconst C dL_law__1275 ?_
  refine r_iadd C dL_law__1276 ?_
  refine r_scld C hSC dL_law__1277 (fun t1 => ?_)
  refine r_aload_n C 3 dL_law__1278 rfl rfl ?_
  refine r_callHL C hNc [rf G 194, i9 t1, rf G 0] dL_law__1279 (t_L_says C.h1 C.h2 t1 d) mwh_L_225 (by decide) (show k + 1 ≤ 601024 by omega) (show n + 6 ≤ 7293034 by omega) rfl rfl (Nat.le_of_ble_eq_true rfl) (fun r2 d3 => ?_)
  show SS G X 8 (k + 1) (n + 6) 1282 [(0, scf b), (1, rf G 0), (2, rf G 174), (3, rf G 194), (4, i9 v4)] [i9 r2] d3 _
  refine r_istore C [(5, i9 r2), (0, scf b), (1, rf G 0), (2, rf G 174), (3, rf G 194), (4, i9 v4)] dL_law__1282 (by decide) rfl ?_
  refine r_aload_n C 3 dL_law__1284 rfl rfl ?_
  refine r_aload_nC C 1 dL_law__1285 rfl rfl ?_
  refine r_iload C 5 dL_law__1286 rfl ?_
  refine r_iconst C dL_law__1288 ?_
  refine r_iadd C dL_law__1289 ?_
  refine r_scld C hSC dL_law__1290 (fun t4 => ?_)
  refine r_callVL C [i9 t4, rf G 174] dL_law__1291 (t_X12_says_174 C.h1 C.h2 t4 d3) mw_L_227 mv_X12_says la_174 ly_174 rfl (by decide) (show k + 1 + 0 ≤ 601024 by omega) (show n + 6 + 0 ≤ 7293034 by omega) rfl rfl (Nat.le_of_ble_eq_true rfl) (fun r5 d6 => ?_)
  show SS G X 8 (k + 1 + 0) (n + 6 + 0) 1294 [(5, i9 r2), (0, scf b), (1, rf G 0), (2, rf G 174), (3, rf G 194), (4, i9 v4)] [i9 r5] d6 _
  refine r_istore C [(6, i9 r5), (5, i9 r2), (0, scf b), (1, rf G 0), (2, rf G 174), (3, rf G 194), (4, i9 v4)] dL_law__1294 (by decide) rfl ?_
  refine r_aload_n C 4 dL_law__1296 rfl rfl ?_
  refine r_callVL C [rf G 174] dL_law__1297 (t_X12_thrown_174 C.h1 C.h2 d6) mw_L_175 mv_X12_thrown la_174 ly_174 rfl (by decide) (show k + 1 + 0 + 0 ≤ 601024 by omega) (show n + 6 + 0 + 0 ≤ 7293034 by omega) rfl rfl (Nat.le_of_ble_eq_true rfl) (fun r7 d8 => ?_)
  show SS G X 8 (k + 1 + 0 + 0) (n + 6 + 0 + 0) 1300 [(6, i9 r5), (5, i9 r2), (0, scf b), (1, rf G 0), (2, rf G 174), (3, rf G 194), (4, i9 v4)] [i9 r7] d8 _
  refine r_iload C 1 dL_law__1300 rfl ?_
  refine r_icmp_eq C 1307 dL_law__1302 (by decide) (fun _ => ?_) (fun _ => ?_)
  · refine r_iload C 1 dL_law__1307 rfl ?_
    refine r_if_ne C (b := 0) 1324 dL_law__1309 (by decide) (fun _ => ?_) (fun _ => ?_)
    · refine r_goto C 3533 dL_law__1324 (by decide) ?_
      refine r_iinc C 6 [(4, i9 (v4 + 7)), (6, i9 r5), (5, i9 r2), (0, scf b), (1, rf G 0), (2, rf G 174), (3, rf G 194)] dL_law__3533 rfl (by decide) rfl ?_
      refine r_goto C 23 dL_law__3536 (by decide) ?_
      refine ss_wide (k' := k + 12) (n' := n + 80) (show k + 1 + 0 + 0 ≤ k + 12 by omega) (show n + 6 + 0 + 0 ≤ n + 80 by omega) ?_
      refine ss_ls [(0, scf b), (1, rf G 0), (2, rf G 174), (3, rf G 194), (4, i9 (v4 + 7))] [3, 4, 5, 6, 0] rfl ?_
      exact hkc (v4 + 7) d8
    · refine r_aload_n C 5 dL_law__1312 rfl rfl ?_
      refine r_iconst C dL_law__1313 ?_
      refine r_lald C dL_law__1314 la_194 ly_194 (fun t9 => ?_)
      refine r_iload C 0 dL_law__1315 rfl ?_
      refine r_i2l C dL_law__1317 ?_
      refine r_lcmp_eq C 1324 dL_law__1318 dL_law__1319 (by decide) (fun _ => ?_) (fun _ => ?_)
      · refine r_goto C 3533 dL_law__1324 (by decide) ?_
        refine r_iinc C 6 [(4, i9 (v4 + 7)), (6, i9 r5), (5, i9 r2), (0, scf b), (1, rf G 0), (2, rf G 174), (3, rf G 194)] dL_law__3533 rfl (by decide) rfl ?_
        refine r_goto C 23 dL_law__3536 (by decide) ?_
        refine ss_wide (k' := k + 12) (n' := n + 80) (show k + 1 + 0 + 0 ≤ k + 12 by omega) (show n + 6 + 0 + 0 ≤ n + 80 by omega) ?_
        refine ss_ls [(0, scf b), (1, rf G 0), (2, rf G 174), (3, rf G 194), (4, i9 (v4 + 7))] [3, 4, 5, 6, 0] rfl ?_
        exact hkc (v4 + 7) d8
      · refine r_iconst C dL_law__1322 ?_
        exact ss_none
  · refine r_iconst C dL_law__1305 ?_
    exact ss_none
theorem dL_law__1327 : decode cL_law_ 1327 = .ok (.aload_n 1, 1) := by decide +kernel
theorem dL_law__1328 : decode cL_law_ 1328 = .ok (.aload_n 0, 1) := by decide +kernel
theorem dL_law__1329 : decode cL_law_ 1329 = .ok (.iload 4, 2) := by decide +kernel
theorem dL_law__1331 : decode cL_law_ 1331 = .ok (.iconst 1, 1) := by decide +kernel
theorem dL_law__1332 : decode cL_law_ 1332 = .ok (.iadd, 1) := by decide +kernel
theorem dL_law__1333 : decode cL_law_ 1333 = .ok (.iaload, 1) := by decide +kernel
theorem dL_law__1334 : decode cL_law_ 1334 = .ok (.invokestatic 228, 3) := by decide +kernel
theorem dL_law__1337 : decode cL_law_ 1337 = .ok (.istore 5, 2) := by decide +kernel
theorem dL_law__1339 : decode cL_law_ 1339 = .ok (.aload_n 2, 1) := by decide +kernel
theorem dL_law__1340 : decode cL_law_ 1340 = .ok (.aload_n 0, 1) := by decide +kernel
theorem dL_law__1341 : decode cL_law_ 1341 = .ok (.iload 4, 2) := by decide +kernel
theorem dL_law__1343 : decode cL_law_ 1343 = .ok (.iconst 1, 1) := by decide +kernel
theorem dL_law__1344 : decode cL_law_ 1344 = .ok (.iadd, 1) := by decide +kernel
theorem dL_law__1345 : decode cL_law_ 1345 = .ok (.iaload, 1) := by decide +kernel
theorem dL_law__1346 : decode cL_law_ 1346 = .ok (.invokevirtual 231, 3) := by decide +kernel
theorem dL_law__1349 : decode cL_law_ 1349 = .ok (.aload_n 2, 1) := by decide +kernel
theorem dL_law__1350 : decode cL_law_ 1350 = .ok (.invokevirtual 175, 3) := by decide +kernel
theorem dL_law__1353 : decode cL_law_ 1353 = .ok (.iload 5, 2) := by decide +kernel
theorem dL_law__1355 : decode cL_law_ 1355 = .ok (.if_icmp .eq 5, 3) := by decide +kernel
theorem dL_law__1358 : decode cL_law_ 1358 = .ok (.iconst 0, 1) := by decide +kernel
theorem dL_law__1360 : decode cL_law_ 1360 = .ok (.goto 2173, 3) := by decide +kernel
def m_L_case_15 (xs : Nat → Int) (L : Nat) (kc : Int → D9 → Option R9) (v4 : Int) (d : D9) : Option R9 := scr xs L (v4 + 1) (fun t1 => cz (m_L_leaked t1 d) (fun r2 d3 => scr xs L (v4 + 1) (fun t4 => cz (m_X12_leaked_174 t4 d3) (fun r5 d6 => cz (m_X12_thrown_174 d6) (fun r7 d8 => if w32 r7 = w32 r2 then kc (v4 + 7) d8 else none)))))
set_option maxRecDepth 100000 in
theorem s_L_case_15 {G : G9} {X : X9} (C : CX G X cL_law_ 8 RL [] zL9) (hNc : NC9 (xS X)) {b L : Nat} {xs : Nat → Int} (hSC : SCX G X b L xs) {k n : Nat} (hk : k + 12 ≤ 601024) (hn : n + 80 ≤ 7293034) (kc : Int → D9 → Option R9) (hkc : ∀ (v4 : Int) (d : D9), SS G X 8 (k + 12) (n + 80) 23 [(0, scf b), (1, rf G 0), (2, rf G 174), (3, rf G 194), (4, i9 v4)] [] d (kc v4 d)) : ∀ (v4 : Int) (d : D9), SS G X 8 k n 1327 [(0, scf b), (1, rf G 0), (2, rf G 174), (3, rf G 194), (4, i9 v4)] [] d (m_L_case_15 xs L kc v4 d) := by
  intro v4 d
  unfold m_L_case_15
  refine r_aload_n C 1 dL_law__1327 rfl rfl ?_
  refine r_aload_nC C 0 dL_law__1328 rfl rfl ?_
  refine r_iload C 4 dL_law__1329 rfl ?_
  refine r_iconst C dL_law__1331 ?_
  refine r_iadd C dL_law__1332 ?_
  refine r_scld C hSC dL_law__1333 (fun t1 => ?_)
  refine r_callHL C hNc [i9 t1, rf G 0] dL_law__1334 (t_L_leaked C.h1 C.h2 t1 d) mwh_L_228 (by decide) (show k + 1 ≤ 601024 by omega) (show n + 6 ≤ 7293034 by omega) rfl rfl (Nat.le_of_ble_eq_true rfl) (fun r2 d3 => ?_)
  show SS G X 8 (k + 1) (n + 6) 1337 [(0, scf b), (1, rf G 0), (2, rf G 174), (3, rf G 194), (4, i9 v4)] [i9 r2] d3 _
  refine r_istore C [(5, i9 r2), (0, scf b), (1, rf G 0), (2, rf G 174), (3, rf G 194), (4, i9 v4)] dL_law__1337 (by decide) rfl ?_
  refine r_aload_n C 3 dL_law__1339 rfl rfl ?_
  refine r_aload_nC C 1 dL_law__1340 rfl rfl ?_
  refine r_iload C 5 dL_law__1341 rfl ?_
  refine r_iconst C dL_law__1343 ?_
  refine r_iadd C dL_law__1344 ?_
  refine r_scld C hSC dL_law__1345 (fun t4 => ?_)
  refine r_callVL C [i9 t4, rf G 174] dL_law__1346 (t_X12_leaked_174 C.h1 C.h2 t4 d3) mw_L_231 mv_X12_leaked la_174 ly_174 rfl (by decide) (show k + 1 + 0 ≤ 601024 by omega) (show n + 6 + 0 ≤ 7293034 by omega) rfl rfl (Nat.le_of_ble_eq_true rfl) (fun r5 d6 => ?_)
  show SS G X 8 (k + 1 + 0) (n + 6 + 0) 1349 [(5, i9 r2), (0, scf b), (1, rf G 0), (2, rf G 174), (3, rf G 194), (4, i9 v4)] [] d6 _
  refine r_aload_n C 3 dL_law__1349 rfl rfl ?_
  refine r_callVL C [rf G 174] dL_law__1350 (t_X12_thrown_174 C.h1 C.h2 d6) mw_L_175 mv_X12_thrown la_174 ly_174 rfl (by decide) (show k + 1 + 0 + 0 ≤ 601024 by omega) (show n + 6 + 0 + 0 ≤ 7293034 by omega) rfl rfl (Nat.le_of_ble_eq_true rfl) (fun r7 d8 => ?_)
  show SS G X 8 (k + 1 + 0 + 0) (n + 6 + 0 + 0) 1353 [(5, i9 r2), (0, scf b), (1, rf G 0), (2, rf G 174), (3, rf G 194), (4, i9 v4)] [i9 r7] d8 _
  refine r_iload C 0 dL_law__1353 rfl ?_
  refine r_icmp_eq C 1360 dL_law__1355 (by decide) (fun _ => ?_) (fun _ => ?_)
  · refine r_goto C 3533 dL_law__1360 (by decide) ?_
    refine r_iinc C 5 [(4, i9 (v4 + 7)), (5, i9 r2), (0, scf b), (1, rf G 0), (2, rf G 174), (3, rf G 194)] dL_law__3533 rfl (by decide) rfl ?_
    refine r_goto C 23 dL_law__3536 (by decide) ?_
    refine ss_wide (k' := k + 12) (n' := n + 80) (show k + 1 + 0 + 0 ≤ k + 12 by omega) (show n + 6 + 0 + 0 ≤ n + 80 by omega) ?_
    refine ss_ls [(0, scf b), (1, rf G 0), (2, rf G 174), (3, rf G 194), (4, i9 (v4 + 7))] [2, 3, 4, 5, 0] rfl ?_
    exact hkc (v4 + 7) d8
  · refine r_iconst C dL_law__1358 ?_
    exact ss_none
theorem dL_law__1363 : decode cL_law_ 1363 = .ok (.aload_n 1, 1) := by decide +kernel
theorem dL_law__1364 : decode cL_law_ 1364 = .ok (.aload_n 0, 1) := by decide +kernel
theorem dL_law__1365 : decode cL_law_ 1365 = .ok (.iload 4, 2) := by decide +kernel
theorem dL_law__1367 : decode cL_law_ 1367 = .ok (.iconst 1, 1) := by decide +kernel
theorem dL_law__1368 : decode cL_law_ 1368 = .ok (.iadd, 1) := by decide +kernel
theorem dL_law__1369 : decode cL_law_ 1369 = .ok (.iaload, 1) := by decide +kernel
theorem dL_law__1370 : decode cL_law_ 1370 = .ok (.aload_n 0, 1) := by decide +kernel
theorem dL_law__1371 : decode cL_law_ 1371 = .ok (.iload 4, 2) := by decide +kernel
theorem dL_law__1373 : decode cL_law_ 1373 = .ok (.iconst 2, 1) := by decide +kernel
theorem dL_law__1374 : decode cL_law_ 1374 = .ok (.iadd, 1) := by decide +kernel
theorem dL_law__1375 : decode cL_law_ 1375 = .ok (.iaload, 1) := by decide +kernel
theorem dL_law__1376 : decode cL_law_ 1376 = .ok (.aload_n 0, 1) := by decide +kernel
theorem dL_law__1377 : decode cL_law_ 1377 = .ok (.iload 4, 2) := by decide +kernel
theorem dL_law__1379 : decode cL_law_ 1379 = .ok (.iconst 3, 1) := by decide +kernel
theorem dL_law__1380 : decode cL_law_ 1380 = .ok (.iadd, 1) := by decide +kernel
theorem dL_law__1381 : decode cL_law_ 1381 = .ok (.iaload, 1) := by decide +kernel
theorem dL_law__1382 : decode cL_law_ 1382 = .ok (.aload_n 0, 1) := by decide +kernel
theorem dL_law__1383 : decode cL_law_ 1383 = .ok (.iload 4, 2) := by decide +kernel
theorem dL_law__1385 : decode cL_law_ 1385 = .ok (.iconst 4, 1) := by decide +kernel
theorem dL_law__1386 : decode cL_law_ 1386 = .ok (.iadd, 1) := by decide +kernel
theorem dL_law__1387 : decode cL_law_ 1387 = .ok (.iaload, 1) := by decide +kernel
theorem dL_law__1388 : decode cL_law_ 1388 = .ok (.aload_n 0, 1) := by decide +kernel
theorem dL_law__1389 : decode cL_law_ 1389 = .ok (.iload 4, 2) := by decide +kernel
theorem dL_law__1391 : decode cL_law_ 1391 = .ok (.iconst 5, 1) := by decide +kernel
theorem dL_law__1392 : decode cL_law_ 1392 = .ok (.iadd, 1) := by decide +kernel
theorem dL_law__1393 : decode cL_law_ 1393 = .ok (.iaload, 1) := by decide +kernel
theorem dL_law__1394 : decode cL_law_ 1394 = .ok (.aload_n 0, 1) := by decide +kernel
theorem dL_law__1395 : decode cL_law_ 1395 = .ok (.iload 4, 2) := by decide +kernel
theorem dL_law__1397 : decode cL_law_ 1397 = .ok (.bipush 6, 2) := by decide +kernel
theorem dL_law__1399 : decode cL_law_ 1399 = .ok (.iadd, 1) := by decide +kernel
theorem dL_law__1400 : decode cL_law_ 1400 = .ok (.iaload, 1) := by decide +kernel
theorem dL_law__1401 : decode cL_law_ 1401 = .ok (.aload_n 3, 1) := by decide +kernel
theorem dL_law__1402 : decode cL_law_ 1402 = .ok (.invokestatic 232, 3) := by decide +kernel
theorem dL_law__1405 : decode cL_law_ 1405 = .ok (.istore 5, 2) := by decide +kernel
theorem dL_law__1407 : decode cL_law_ 1407 = .ok (.aload_n 2, 1) := by decide +kernel
theorem dL_law__1408 : decode cL_law_ 1408 = .ok (.aload_n 0, 1) := by decide +kernel
theorem dL_law__1409 : decode cL_law_ 1409 = .ok (.iload 4, 2) := by decide +kernel
theorem dL_law__1411 : decode cL_law_ 1411 = .ok (.iconst 1, 1) := by decide +kernel
theorem dL_law__1412 : decode cL_law_ 1412 = .ok (.iadd, 1) := by decide +kernel
theorem dL_law__1413 : decode cL_law_ 1413 = .ok (.iaload, 1) := by decide +kernel
theorem dL_law__1414 : decode cL_law_ 1414 = .ok (.aload_n 0, 1) := by decide +kernel
theorem dL_law__1415 : decode cL_law_ 1415 = .ok (.iload 4, 2) := by decide +kernel
theorem dL_law__1417 : decode cL_law_ 1417 = .ok (.iconst 2, 1) := by decide +kernel
theorem dL_law__1418 : decode cL_law_ 1418 = .ok (.iadd, 1) := by decide +kernel
theorem dL_law__1419 : decode cL_law_ 1419 = .ok (.iaload, 1) := by decide +kernel
theorem dL_law__1420 : decode cL_law_ 1420 = .ok (.aload_n 0, 1) := by decide +kernel
theorem dL_law__1421 : decode cL_law_ 1421 = .ok (.iload 4, 2) := by decide +kernel
theorem dL_law__1423 : decode cL_law_ 1423 = .ok (.iconst 3, 1) := by decide +kernel
theorem dL_law__1424 : decode cL_law_ 1424 = .ok (.iadd, 1) := by decide +kernel
theorem dL_law__1425 : decode cL_law_ 1425 = .ok (.iaload, 1) := by decide +kernel
theorem dL_law__1426 : decode cL_law_ 1426 = .ok (.aload_n 0, 1) := by decide +kernel
theorem dL_law__1427 : decode cL_law_ 1427 = .ok (.iload 4, 2) := by decide +kernel
theorem dL_law__1429 : decode cL_law_ 1429 = .ok (.iconst 4, 1) := by decide +kernel
theorem dL_law__1430 : decode cL_law_ 1430 = .ok (.iadd, 1) := by decide +kernel
theorem dL_law__1431 : decode cL_law_ 1431 = .ok (.iaload, 1) := by decide +kernel
theorem dL_law__1432 : decode cL_law_ 1432 = .ok (.aload_n 0, 1) := by decide +kernel
theorem dL_law__1433 : decode cL_law_ 1433 = .ok (.iload 4, 2) := by decide +kernel
theorem dL_law__1435 : decode cL_law_ 1435 = .ok (.iconst 5, 1) := by decide +kernel
theorem dL_law__1436 : decode cL_law_ 1436 = .ok (.iadd, 1) := by decide +kernel
theorem dL_law__1437 : decode cL_law_ 1437 = .ok (.iaload, 1) := by decide +kernel
theorem dL_law__1438 : decode cL_law_ 1438 = .ok (.aload_n 0, 1) := by decide +kernel
theorem dL_law__1439 : decode cL_law_ 1439 = .ok (.iload 4, 2) := by decide +kernel
theorem dL_law__1441 : decode cL_law_ 1441 = .ok (.bipush 6, 2) := by decide +kernel
theorem dL_law__1443 : decode cL_law_ 1443 = .ok (.iadd, 1) := by decide +kernel
theorem dL_law__1444 : decode cL_law_ 1444 = .ok (.iaload, 1) := by decide +kernel
theorem dL_law__1445 : decode cL_law_ 1445 = .ok (.invokevirtual 235, 3) := by decide +kernel
theorem dL_law__1448 : decode cL_law_ 1448 = .ok (.istore 6, 2) := by decide +kernel
theorem dL_law__1450 : decode cL_law_ 1450 = .ok (.aload_n 2, 1) := by decide +kernel
theorem dL_law__1451 : decode cL_law_ 1451 = .ok (.invokevirtual 175, 3) := by decide +kernel
theorem dL_law__1454 : decode cL_law_ 1454 = .ok (.iload 5, 2) := by decide +kernel
theorem dL_law__1456 : decode cL_law_ 1456 = .ok (.if_icmp .eq 5, 3) := by decide +kernel
theorem dL_law__1459 : decode cL_law_ 1459 = .ok (.iconst 0, 1) := by decide +kernel
theorem dL_law__1461 : decode cL_law_ 1461 = .ok (.iload 5, 2) := by decide +kernel
theorem dL_law__1463 : decode cL_law_ 1463 = .ok (.ifCond .ne 15, 3) := by decide +kernel
theorem dL_law__1466 : decode cL_law_ 1466 = .ok (.aload_n 3, 1) := by decide +kernel
theorem dL_law__1467 : decode cL_law_ 1467 = .ok (.iconst 0, 1) := by decide +kernel
theorem dL_law__1468 : decode cL_law_ 1468 = .ok (.laload, 1) := by decide +kernel
theorem dL_law__1469 : decode cL_law_ 1469 = .ok (.iload 6, 2) := by decide +kernel
theorem dL_law__1471 : decode cL_law_ 1471 = .ok (.i2l, 1) := by decide +kernel
theorem dL_law__1472 : decode cL_law_ 1472 = .ok (.lcmp, 1) := by decide +kernel
theorem dL_law__1473 : decode cL_law_ 1473 = .ok (.ifCond .eq 5, 3) := by decide +kernel
theorem dL_law__1476 : decode cL_law_ 1476 = .ok (.iconst 0, 1) := by decide +kernel
theorem dL_law__1478 : decode cL_law_ 1478 = .ok (.goto 2055, 3) := by decide +kernel
def m_L_case_16 (xs : Nat → Int) (L : Nat) (kc : Int → D9 → Option R9) (v4 : Int) (d : D9) : Option R9 := scr xs L (v4 + 1) (fun t1 => scr xs L (v4 + 2) (fun t2 => scr xs L (v4 + 3) (fun t3 => scr xs L (v4 + 4) (fun t4 => scr xs L (v4 + 5) (fun t5 => scr xs L (v4 + 6) (fun t6 => cz (m_L_drip t1 t2 t3 t4 t5 t6 d) (fun r7 d8 => scr xs L (v4 + 1) (fun t9 => scr xs L (v4 + 2) (fun t10 => scr xs L (v4 + 3) (fun t11 => scr xs L (v4 + 4) (fun t12 => scr xs L (v4 + 5) (fun t13 => scr xs L (v4 + 6) (fun t14 => cz (m_X12_drip_174 t9 t10 t11 t12 t13 t14 d8) (fun r15 d16 => cz (m_X12_thrown_174 d16) (fun r17 d18 => if w32 r17 = w32 r7 then if w32 r7 ≠ 0 then kc (v4 + 7) d18 else ld d18 194 1 0 (fun t19 => if w64 t19 = w64 (w32 r15) then kc (v4 + 7) d18 else none) else none)))))))))))))))
set_option maxRecDepth 100000 in
theorem s_L_case_16 {G : G9} {X : X9} (C : CX G X cL_law_ 8 RL [] zL9) (hNc : NC9 (xS X)) {b L : Nat} {xs : Nat → Int} (hSC : SCX G X b L xs) {k n : Nat} (hk : k + 12 ≤ 601024) (hn : n + 80 ≤ 7293034) (kc : Int → D9 → Option R9) (hkc : ∀ (v4 : Int) (d : D9), SS G X 8 (k + 12) (n + 80) 23 [(0, scf b), (1, rf G 0), (2, rf G 174), (3, rf G 194), (4, i9 v4)] [] d (kc v4 d)) : ∀ (v4 : Int) (d : D9), SS G X 8 k n 1363 [(0, scf b), (1, rf G 0), (2, rf G 174), (3, rf G 194), (4, i9 v4)] [] d (m_L_case_16 xs L kc v4 d) := by
  intro v4 d
  unfold m_L_case_16
  refine r_aload_n C 1 dL_law__1363 rfl rfl ?_
  refine r_aload_nC C 0 dL_law__1364 rfl rfl ?_
  refine r_iload C 4 dL_law__1365 rfl ?_
  refine r_iconst C dL_law__1367 ?_
  refine r_iadd C dL_law__1368 ?_
  refine r_scld C hSC dL_law__1369 (fun t1 => ?_)
  refine r_aload_nC C 0 dL_law__1370 rfl rfl ?_
  refine r_iload C 4 dL_law__1371 rfl ?_
  refine r_iconst C dL_law__1373 ?_
  refine r_iadd C dL_law__1374 ?_
  refine r_scld C hSC dL_law__1375 (fun t2 => ?_)
  refine r_aload_nC C 0 dL_law__1376 rfl rfl ?_
  refine r_iload C 4 dL_law__1377 rfl ?_
  refine r_iconst C dL_law__1379 ?_
  refine r_iadd C dL_law__1380 ?_
  refine r_scld C hSC dL_law__1381 (fun t3 => ?_)
  refine r_aload_nC C 0 dL_law__1382 rfl rfl ?_
  refine r_iload C 4 dL_law__1383 rfl ?_
  refine r_iconst C dL_law__1385 ?_
  refine r_iadd C dL_law__1386 ?_
  refine r_scld C hSC dL_law__1387 (fun t4 => ?_)
  refine r_aload_nC C 0 dL_law__1388 rfl rfl ?_
  refine r_iload C 4 dL_law__1389 rfl ?_
  refine r_iconst C dL_law__1391 ?_
  refine r_iadd C dL_law__1392 ?_
  refine r_scld C hSC dL_law__1393 (fun t5 => ?_)
  refine r_aload_nC C 0 dL_law__1394 rfl rfl ?_
  refine r_iload C 4 dL_law__1395 rfl ?_
  refine r_bipush C dL_law__1397 rfl ?_
  refine r_iadd C dL_law__1399 ?_
  refine r_scld C hSC dL_law__1400 (fun t6 => ?_)
  refine r_aload_n C 3 dL_law__1401 rfl rfl ?_
  refine r_callHL C hNc [rf G 194, i9 t6, i9 t5, i9 t4, i9 t3, i9 t2, i9 t1, rf G 0] dL_law__1402 (t_L_drip C.h1 C.h2 t1 t2 t3 t4 t5 t6 d) mwh_L_232 (by decide) (show k + 5 ≤ 601024 by omega) (show n + 30 ≤ 7293034 by omega) rfl rfl (Nat.le_of_ble_eq_true rfl) (fun r7 d8 => ?_)
  show SS G X 8 (k + 5) (n + 30) 1405 [(0, scf b), (1, rf G 0), (2, rf G 174), (3, rf G 194), (4, i9 v4)] [i9 r7] d8 _
  refine r_istore C [(5, i9 r7), (0, scf b), (1, rf G 0), (2, rf G 174), (3, rf G 194), (4, i9 v4)] dL_law__1405 (by decide) rfl ?_
  refine r_aload_n C 3 dL_law__1407 rfl rfl ?_
  refine r_aload_nC C 1 dL_law__1408 rfl rfl ?_
  refine r_iload C 5 dL_law__1409 rfl ?_
  refine r_iconst C dL_law__1411 ?_
  refine r_iadd C dL_law__1412 ?_
  refine r_scld C hSC dL_law__1413 (fun t9 => ?_)
  refine r_aload_nC C 1 dL_law__1414 rfl rfl ?_
  refine r_iload C 5 dL_law__1415 rfl ?_
  refine r_iconst C dL_law__1417 ?_
  refine r_iadd C dL_law__1418 ?_
  refine r_scld C hSC dL_law__1419 (fun t10 => ?_)
  refine r_aload_nC C 1 dL_law__1420 rfl rfl ?_
  refine r_iload C 5 dL_law__1421 rfl ?_
  refine r_iconst C dL_law__1423 ?_
  refine r_iadd C dL_law__1424 ?_
  refine r_scld C hSC dL_law__1425 (fun t11 => ?_)
  refine r_aload_nC C 1 dL_law__1426 rfl rfl ?_
  refine r_iload C 5 dL_law__1427 rfl ?_
  refine r_iconst C dL_law__1429 ?_
  refine r_iadd C dL_law__1430 ?_
  refine r_scld C hSC dL_law__1431 (fun t12 => ?_)
  refine r_aload_nC C 1 dL_law__1432 rfl rfl ?_
  refine r_iload C 5 dL_law__1433 rfl ?_
  refine r_iconst C dL_law__1435 ?_
  refine r_iadd C dL_law__1436 ?_
  refine r_scld C hSC dL_law__1437 (fun t13 => ?_)
  refine r_aload_nC C 1 dL_law__1438 rfl rfl ?_
  refine r_iload C 5 dL_law__1439 rfl ?_
  refine r_bipush C dL_law__1441 rfl ?_
  refine r_iadd C dL_law__1443 ?_
  refine r_scld C hSC dL_law__1444 (fun t14 => ?_)
  refine r_callVL C [i9 t14, i9 t13, i9 t12, i9 t11, i9 t10, i9 t9, rf G 174] dL_law__1445 (t_X12_drip_174 C.h1 C.h2 t9 t10 t11 t12 t13 t14 d8) mw_L_235 mv_X12_drip la_174 ly_174 rfl (by decide) (show k + 5 + 0 ≤ 601024 by omega) (show n + 30 + 0 ≤ 7293034 by omega) rfl rfl (Nat.le_of_ble_eq_true rfl) (fun r15 d16 => ?_)
  show SS G X 8 (k + 5 + 0) (n + 30 + 0) 1448 [(5, i9 r7), (0, scf b), (1, rf G 0), (2, rf G 174), (3, rf G 194), (4, i9 v4)] [i9 r15] d16 _
  refine r_istore C [(6, i9 r15), (5, i9 r7), (0, scf b), (1, rf G 0), (2, rf G 174), (3, rf G 194), (4, i9 v4)] dL_law__1448 (by decide) rfl ?_
  refine r_aload_n C 4 dL_law__1450 rfl rfl ?_
  refine r_callVL C [rf G 174] dL_law__1451 (t_X12_thrown_174 C.h1 C.h2 d16) mw_L_175 mv_X12_thrown la_174 ly_174 rfl (by decide) (show k + 5 + 0 + 0 ≤ 601024 by omega) (show n + 30 + 0 + 0 ≤ 7293034 by omega) rfl rfl (Nat.le_of_ble_eq_true rfl) (fun r17 d18 => ?_)
  show SS G X 8 (k + 5 + 0 + 0) (n + 30 + 0 + 0) 1454 [(6, i9 r15), (5, i9 r7), (0, scf b), (1, rf G 0), (2, rf G 174), (3, rf G 194), (4, i9 v4)] [i9 r17] d18 _
  refine r_iload C 1 dL_law__1454 rfl ?_
  refine r_icmp_eq C 1461 dL_law__1456 (by decide) (fun _ => ?_) (fun _ => ?_)
  · refine r_iload C 1 dL_law__1461 rfl ?_
    refine r_if_ne C (b := 0) 1478 dL_law__1463 (by decide) (fun _ => ?_) (fun _ => ?_)
    · refine r_goto C 3533 dL_law__1478 (by decide) ?_
      refine r_iinc C 6 [(4, i9 (v4 + 7)), (6, i9 r15), (5, i9 r7), (0, scf b), (1, rf G 0), (2, rf G 174), (3, rf G 194)] dL_law__3533 rfl (by decide) rfl ?_
      refine r_goto C 23 dL_law__3536 (by decide) ?_
      refine ss_wide (k' := k + 12) (n' := n + 80) (show k + 5 + 0 + 0 ≤ k + 12 by omega) (show n + 30 + 0 + 0 ≤ n + 80 by omega) ?_
      refine ss_ls [(0, scf b), (1, rf G 0), (2, rf G 174), (3, rf G 194), (4, i9 (v4 + 7))] [3, 4, 5, 6, 0] rfl ?_
      exact hkc (v4 + 7) d18
    · refine r_aload_n C 5 dL_law__1466 rfl rfl ?_
      refine r_iconst C dL_law__1467 ?_
      refine r_lald C dL_law__1468 la_194 ly_194 (fun t19 => ?_)
      refine r_iload C 0 dL_law__1469 rfl ?_
      refine r_i2l C dL_law__1471 ?_
      refine r_lcmp_eq C 1478 dL_law__1472 dL_law__1473 (by decide) (fun _ => ?_) (fun _ => ?_)
      · refine r_goto C 3533 dL_law__1478 (by decide) ?_
        refine r_iinc C 6 [(4, i9 (v4 + 7)), (6, i9 r15), (5, i9 r7), (0, scf b), (1, rf G 0), (2, rf G 174), (3, rf G 194)] dL_law__3533 rfl (by decide) rfl ?_
        refine r_goto C 23 dL_law__3536 (by decide) ?_
        refine ss_wide (k' := k + 12) (n' := n + 80) (show k + 5 + 0 + 0 ≤ k + 12 by omega) (show n + 30 + 0 + 0 ≤ n + 80 by omega) ?_
        refine ss_ls [(0, scf b), (1, rf G 0), (2, rf G 174), (3, rf G 194), (4, i9 (v4 + 7))] [3, 4, 5, 6, 0] rfl ?_
        exact hkc (v4 + 7) d18
      · refine r_iconst C dL_law__1476 ?_
        exact ss_none
  · refine r_iconst C dL_law__1459 ?_
    exact ss_none
theorem dL_law__1481 : decode cL_law_ 1481 = .ok (.aload_n 1, 1) := by decide +kernel
theorem dL_law__1482 : decode cL_law_ 1482 = .ok (.aload_n 0, 1) := by decide +kernel
theorem dL_law__1483 : decode cL_law_ 1483 = .ok (.iload 4, 2) := by decide +kernel
theorem dL_law__1485 : decode cL_law_ 1485 = .ok (.iconst 1, 1) := by decide +kernel
theorem dL_law__1486 : decode cL_law_ 1486 = .ok (.iadd, 1) := by decide +kernel
theorem dL_law__1487 : decode cL_law_ 1487 = .ok (.iaload, 1) := by decide +kernel
theorem dL_law__1488 : decode cL_law_ 1488 = .ok (.aload_n 0, 1) := by decide +kernel
theorem dL_law__1489 : decode cL_law_ 1489 = .ok (.iload 4, 2) := by decide +kernel
theorem dL_law__1491 : decode cL_law_ 1491 = .ok (.iconst 2, 1) := by decide +kernel
theorem dL_law__1492 : decode cL_law_ 1492 = .ok (.iadd, 1) := by decide +kernel
theorem dL_law__1493 : decode cL_law_ 1493 = .ok (.iaload, 1) := by decide +kernel
theorem dL_law__1494 : decode cL_law_ 1494 = .ok (.aload_n 0, 1) := by decide +kernel
theorem dL_law__1495 : decode cL_law_ 1495 = .ok (.iload 4, 2) := by decide +kernel
theorem dL_law__1497 : decode cL_law_ 1497 = .ok (.iconst 3, 1) := by decide +kernel
theorem dL_law__1498 : decode cL_law_ 1498 = .ok (.iadd, 1) := by decide +kernel
theorem dL_law__1499 : decode cL_law_ 1499 = .ok (.iaload, 1) := by decide +kernel
theorem dL_law__1500 : decode cL_law_ 1500 = .ok (.aload_n 0, 1) := by decide +kernel
theorem dL_law__1501 : decode cL_law_ 1501 = .ok (.iload 4, 2) := by decide +kernel
theorem dL_law__1503 : decode cL_law_ 1503 = .ok (.iconst 4, 1) := by decide +kernel
theorem dL_law__1504 : decode cL_law_ 1504 = .ok (.iadd, 1) := by decide +kernel
theorem dL_law__1505 : decode cL_law_ 1505 = .ok (.iaload, 1) := by decide +kernel
theorem dL_law__1506 : decode cL_law_ 1506 = .ok (.aload_n 0, 1) := by decide +kernel
theorem dL_law__1507 : decode cL_law_ 1507 = .ok (.iload 4, 2) := by decide +kernel
theorem dL_law__1509 : decode cL_law_ 1509 = .ok (.iconst 5, 1) := by decide +kernel
theorem dL_law__1510 : decode cL_law_ 1510 = .ok (.iadd, 1) := by decide +kernel
theorem dL_law__1511 : decode cL_law_ 1511 = .ok (.iaload, 1) := by decide +kernel
theorem dL_law__1512 : decode cL_law_ 1512 = .ok (.aload_n 3, 1) := by decide +kernel
theorem dL_law__1513 : decode cL_law_ 1513 = .ok (.invokestatic 236, 3) := by decide +kernel
theorem dL_law__1516 : decode cL_law_ 1516 = .ok (.istore 5, 2) := by decide +kernel
theorem dL_law__1518 : decode cL_law_ 1518 = .ok (.aload_n 2, 1) := by decide +kernel
theorem dL_law__1519 : decode cL_law_ 1519 = .ok (.aload_n 0, 1) := by decide +kernel
theorem dL_law__1520 : decode cL_law_ 1520 = .ok (.iload 4, 2) := by decide +kernel
theorem dL_law__1522 : decode cL_law_ 1522 = .ok (.iconst 1, 1) := by decide +kernel
theorem dL_law__1523 : decode cL_law_ 1523 = .ok (.iadd, 1) := by decide +kernel
theorem dL_law__1524 : decode cL_law_ 1524 = .ok (.iaload, 1) := by decide +kernel
theorem dL_law__1525 : decode cL_law_ 1525 = .ok (.aload_n 0, 1) := by decide +kernel
theorem dL_law__1526 : decode cL_law_ 1526 = .ok (.iload 4, 2) := by decide +kernel
theorem dL_law__1528 : decode cL_law_ 1528 = .ok (.iconst 2, 1) := by decide +kernel
theorem dL_law__1529 : decode cL_law_ 1529 = .ok (.iadd, 1) := by decide +kernel
theorem dL_law__1530 : decode cL_law_ 1530 = .ok (.iaload, 1) := by decide +kernel
theorem dL_law__1531 : decode cL_law_ 1531 = .ok (.aload_n 0, 1) := by decide +kernel
theorem dL_law__1532 : decode cL_law_ 1532 = .ok (.iload 4, 2) := by decide +kernel
theorem dL_law__1534 : decode cL_law_ 1534 = .ok (.iconst 3, 1) := by decide +kernel
theorem dL_law__1535 : decode cL_law_ 1535 = .ok (.iadd, 1) := by decide +kernel
theorem dL_law__1536 : decode cL_law_ 1536 = .ok (.iaload, 1) := by decide +kernel
theorem dL_law__1537 : decode cL_law_ 1537 = .ok (.aload_n 0, 1) := by decide +kernel
theorem dL_law__1538 : decode cL_law_ 1538 = .ok (.iload 4, 2) := by decide +kernel
theorem dL_law__1540 : decode cL_law_ 1540 = .ok (.iconst 4, 1) := by decide +kernel
theorem dL_law__1541 : decode cL_law_ 1541 = .ok (.iadd, 1) := by decide +kernel
theorem dL_law__1542 : decode cL_law_ 1542 = .ok (.iaload, 1) := by decide +kernel
theorem dL_law__1543 : decode cL_law_ 1543 = .ok (.aload_n 0, 1) := by decide +kernel
theorem dL_law__1544 : decode cL_law_ 1544 = .ok (.iload 4, 2) := by decide +kernel
theorem dL_law__1546 : decode cL_law_ 1546 = .ok (.iconst 5, 1) := by decide +kernel
theorem dL_law__1547 : decode cL_law_ 1547 = .ok (.iadd, 1) := by decide +kernel
theorem dL_law__1548 : decode cL_law_ 1548 = .ok (.iaload, 1) := by decide +kernel
theorem dL_law__1549 : decode cL_law_ 1549 = .ok (.invokevirtual 239, 3) := by decide +kernel
theorem dL_law__1552 : decode cL_law_ 1552 = .ok (.istore 6, 2) := by decide +kernel
theorem dL_law__1554 : decode cL_law_ 1554 = .ok (.aload_n 2, 1) := by decide +kernel
theorem dL_law__1555 : decode cL_law_ 1555 = .ok (.invokevirtual 175, 3) := by decide +kernel
theorem dL_law__1558 : decode cL_law_ 1558 = .ok (.iload 5, 2) := by decide +kernel
theorem dL_law__1560 : decode cL_law_ 1560 = .ok (.if_icmp .eq 5, 3) := by decide +kernel
theorem dL_law__1563 : decode cL_law_ 1563 = .ok (.iconst 0, 1) := by decide +kernel
theorem dL_law__1565 : decode cL_law_ 1565 = .ok (.iload 5, 2) := by decide +kernel
theorem dL_law__1567 : decode cL_law_ 1567 = .ok (.ifCond .ne 15, 3) := by decide +kernel
theorem dL_law__1570 : decode cL_law_ 1570 = .ok (.aload_n 3, 1) := by decide +kernel
theorem dL_law__1571 : decode cL_law_ 1571 = .ok (.iconst 0, 1) := by decide +kernel
theorem dL_law__1572 : decode cL_law_ 1572 = .ok (.laload, 1) := by decide +kernel
theorem dL_law__1573 : decode cL_law_ 1573 = .ok (.iload 6, 2) := by decide +kernel
theorem dL_law__1575 : decode cL_law_ 1575 = .ok (.i2l, 1) := by decide +kernel
theorem dL_law__1576 : decode cL_law_ 1576 = .ok (.lcmp, 1) := by decide +kernel
theorem dL_law__1577 : decode cL_law_ 1577 = .ok (.ifCond .eq 5, 3) := by decide +kernel
theorem dL_law__1580 : decode cL_law_ 1580 = .ok (.iconst 0, 1) := by decide +kernel
theorem dL_law__1582 : decode cL_law_ 1582 = .ok (.goto 1951, 3) := by decide +kernel
def m_L_case_17 (xs : Nat → Int) (L : Nat) (kc : Int → D9 → Option R9) (v4 : Int) (d : D9) : Option R9 := scr xs L (v4 + 1) (fun t1 => scr xs L (v4 + 2) (fun t2 => scr xs L (v4 + 3) (fun t3 => scr xs L (v4 + 4) (fun t4 => scr xs L (v4 + 5) (fun t5 => cz (m_L_trial t1 t2 t3 t4 t5 d) (fun r6 d7 => scr xs L (v4 + 1) (fun t8 => scr xs L (v4 + 2) (fun t9 => scr xs L (v4 + 3) (fun t10 => scr xs L (v4 + 4) (fun t11 => scr xs L (v4 + 5) (fun t12 => cz (m_X12_trial_174 t8 t9 t10 t11 t12 d7) (fun r13 d14 => cz (m_X12_thrown_174 d14) (fun r15 d16 => if w32 r15 = w32 r6 then if w32 r6 ≠ 0 then kc (v4 + 7) d16 else ld d16 194 1 0 (fun t17 => if w64 t17 = w64 (w32 r13) then kc (v4 + 7) d16 else none) else none)))))))))))))
set_option maxRecDepth 100000 in
theorem s_L_case_17 {G : G9} {X : X9} (C : CX G X cL_law_ 8 RL [] zL9) (hNc : NC9 (xS X)) {b L : Nat} {xs : Nat → Int} (hSC : SCX G X b L xs) {k n : Nat} (hk : k + 12 ≤ 601024) (hn : n + 80 ≤ 7293034) (kc : Int → D9 → Option R9) (hkc : ∀ (v4 : Int) (d : D9), SS G X 8 (k + 12) (n + 80) 23 [(0, scf b), (1, rf G 0), (2, rf G 174), (3, rf G 194), (4, i9 v4)] [] d (kc v4 d)) : ∀ (v4 : Int) (d : D9), SS G X 8 k n 1481 [(0, scf b), (1, rf G 0), (2, rf G 174), (3, rf G 194), (4, i9 v4)] [] d (m_L_case_17 xs L kc v4 d) := by
  intro v4 d
  unfold m_L_case_17
  refine r_aload_n C 1 dL_law__1481 rfl rfl ?_
  refine r_aload_nC C 0 dL_law__1482 rfl rfl ?_
  refine r_iload C 4 dL_law__1483 rfl ?_
  refine r_iconst C dL_law__1485 ?_
  refine r_iadd C dL_law__1486 ?_
  refine r_scld C hSC dL_law__1487 (fun t1 => ?_)
  refine r_aload_nC C 0 dL_law__1488 rfl rfl ?_
  refine r_iload C 4 dL_law__1489 rfl ?_
  refine r_iconst C dL_law__1491 ?_
  refine r_iadd C dL_law__1492 ?_
  refine r_scld C hSC dL_law__1493 (fun t2 => ?_)
  refine r_aload_nC C 0 dL_law__1494 rfl rfl ?_
  refine r_iload C 4 dL_law__1495 rfl ?_
  refine r_iconst C dL_law__1497 ?_
  refine r_iadd C dL_law__1498 ?_
  refine r_scld C hSC dL_law__1499 (fun t3 => ?_)
  refine r_aload_nC C 0 dL_law__1500 rfl rfl ?_
  refine r_iload C 4 dL_law__1501 rfl ?_
  refine r_iconst C dL_law__1503 ?_
  refine r_iadd C dL_law__1504 ?_
  refine r_scld C hSC dL_law__1505 (fun t4 => ?_)
  refine r_aload_nC C 0 dL_law__1506 rfl rfl ?_
  refine r_iload C 4 dL_law__1507 rfl ?_
  refine r_iconst C dL_law__1509 ?_
  refine r_iadd C dL_law__1510 ?_
  refine r_scld C hSC dL_law__1511 (fun t5 => ?_)
  refine r_aload_n C 3 dL_law__1512 rfl rfl ?_
  refine r_callHL C hNc [rf G 194, i9 t5, i9 t4, i9 t3, i9 t2, i9 t1, rf G 0] dL_law__1513 (t_L_trial C.h1 C.h2 t1 t2 t3 t4 t5 d) mwh_L_236 (by decide) (show k + 5 ≤ 601024 by omega) (show n + 30 ≤ 7293034 by omega) rfl rfl (Nat.le_of_ble_eq_true rfl) (fun r6 d7 => ?_)
  show SS G X 8 (k + 5) (n + 30) 1516 [(0, scf b), (1, rf G 0), (2, rf G 174), (3, rf G 194), (4, i9 v4)] [i9 r6] d7 _
  refine r_istore C [(5, i9 r6), (0, scf b), (1, rf G 0), (2, rf G 174), (3, rf G 194), (4, i9 v4)] dL_law__1516 (by decide) rfl ?_
  refine r_aload_n C 3 dL_law__1518 rfl rfl ?_
  refine r_aload_nC C 1 dL_law__1519 rfl rfl ?_
  refine r_iload C 5 dL_law__1520 rfl ?_
  refine r_iconst C dL_law__1522 ?_
  refine r_iadd C dL_law__1523 ?_
  refine r_scld C hSC dL_law__1524 (fun t8 => ?_)
  refine r_aload_nC C 1 dL_law__1525 rfl rfl ?_
  refine r_iload C 5 dL_law__1526 rfl ?_
  refine r_iconst C dL_law__1528 ?_
  refine r_iadd C dL_law__1529 ?_
  refine r_scld C hSC dL_law__1530 (fun t9 => ?_)
  refine r_aload_nC C 1 dL_law__1531 rfl rfl ?_
  refine r_iload C 5 dL_law__1532 rfl ?_
  refine r_iconst C dL_law__1534 ?_
  refine r_iadd C dL_law__1535 ?_
  refine r_scld C hSC dL_law__1536 (fun t10 => ?_)
  refine r_aload_nC C 1 dL_law__1537 rfl rfl ?_
  refine r_iload C 5 dL_law__1538 rfl ?_
  refine r_iconst C dL_law__1540 ?_
  refine r_iadd C dL_law__1541 ?_
  refine r_scld C hSC dL_law__1542 (fun t11 => ?_)
  refine r_aload_nC C 1 dL_law__1543 rfl rfl ?_
  refine r_iload C 5 dL_law__1544 rfl ?_
  refine r_iconst C dL_law__1546 ?_
  refine r_iadd C dL_law__1547 ?_
  refine r_scld C hSC dL_law__1548 (fun t12 => ?_)
  refine r_callVL C [i9 t12, i9 t11, i9 t10, i9 t9, i9 t8, rf G 174] dL_law__1549 (t_X12_trial_174 C.h1 C.h2 t8 t9 t10 t11 t12 d7) mw_L_239 mv_X12_trial la_174 ly_174 rfl (by decide) (show k + 5 + 0 ≤ 601024 by omega) (show n + 30 + 0 ≤ 7293034 by omega) rfl rfl (Nat.le_of_ble_eq_true rfl) (fun r13 d14 => ?_)
  show SS G X 8 (k + 5 + 0) (n + 30 + 0) 1552 [(5, i9 r6), (0, scf b), (1, rf G 0), (2, rf G 174), (3, rf G 194), (4, i9 v4)] [i9 r13] d14 _
  refine r_istore C [(6, i9 r13), (5, i9 r6), (0, scf b), (1, rf G 0), (2, rf G 174), (3, rf G 194), (4, i9 v4)] dL_law__1552 (by decide) rfl ?_
  refine r_aload_n C 4 dL_law__1554 rfl rfl ?_
  refine r_callVL C [rf G 174] dL_law__1555 (t_X12_thrown_174 C.h1 C.h2 d14) mw_L_175 mv_X12_thrown la_174 ly_174 rfl (by decide) (show k + 5 + 0 + 0 ≤ 601024 by omega) (show n + 30 + 0 + 0 ≤ 7293034 by omega) rfl rfl (Nat.le_of_ble_eq_true rfl) (fun r15 d16 => ?_)
  show SS G X 8 (k + 5 + 0 + 0) (n + 30 + 0 + 0) 1558 [(6, i9 r13), (5, i9 r6), (0, scf b), (1, rf G 0), (2, rf G 174), (3, rf G 194), (4, i9 v4)] [i9 r15] d16 _
  refine r_iload C 1 dL_law__1558 rfl ?_
  refine r_icmp_eq C 1565 dL_law__1560 (by decide) (fun _ => ?_) (fun _ => ?_)
  · refine r_iload C 1 dL_law__1565 rfl ?_
    refine r_if_ne C (b := 0) 1582 dL_law__1567 (by decide) (fun _ => ?_) (fun _ => ?_)
    · refine r_goto C 3533 dL_law__1582 (by decide) ?_
      refine r_iinc C 6 [(4, i9 (v4 + 7)), (6, i9 r13), (5, i9 r6), (0, scf b), (1, rf G 0), (2, rf G 174), (3, rf G 194)] dL_law__3533 rfl (by decide) rfl ?_
      refine r_goto C 23 dL_law__3536 (by decide) ?_
      refine ss_wide (k' := k + 12) (n' := n + 80) (show k + 5 + 0 + 0 ≤ k + 12 by omega) (show n + 30 + 0 + 0 ≤ n + 80 by omega) ?_
      refine ss_ls [(0, scf b), (1, rf G 0), (2, rf G 174), (3, rf G 194), (4, i9 (v4 + 7))] [3, 4, 5, 6, 0] rfl ?_
      exact hkc (v4 + 7) d16
    · refine r_aload_n C 5 dL_law__1570 rfl rfl ?_
      refine r_iconst C dL_law__1571 ?_
      refine r_lald C dL_law__1572 la_194 ly_194 (fun t17 => ?_)
      refine r_iload C 0 dL_law__1573 rfl ?_
      refine r_i2l C dL_law__1575 ?_
      refine r_lcmp_eq C 1582 dL_law__1576 dL_law__1577 (by decide) (fun _ => ?_) (fun _ => ?_)
      · refine r_goto C 3533 dL_law__1582 (by decide) ?_
        refine r_iinc C 6 [(4, i9 (v4 + 7)), (6, i9 r13), (5, i9 r6), (0, scf b), (1, rf G 0), (2, rf G 174), (3, rf G 194)] dL_law__3533 rfl (by decide) rfl ?_
        refine r_goto C 23 dL_law__3536 (by decide) ?_
        refine ss_wide (k' := k + 12) (n' := n + 80) (show k + 5 + 0 + 0 ≤ k + 12 by omega) (show n + 30 + 0 + 0 ≤ n + 80 by omega) ?_
        refine ss_ls [(0, scf b), (1, rf G 0), (2, rf G 174), (3, rf G 194), (4, i9 (v4 + 7))] [3, 4, 5, 6, 0] rfl ?_
        exact hkc (v4 + 7) d16
      · refine r_iconst C dL_law__1580 ?_
        exact ss_none
  · refine r_iconst C dL_law__1563 ?_
    exact ss_none
theorem dL_law__1585 : decode cL_law_ 1585 = .ok (.aload_n 1, 1) := by decide +kernel
theorem dL_law__1586 : decode cL_law_ 1586 = .ok (.aload_n 0, 1) := by decide +kernel
theorem dL_law__1587 : decode cL_law_ 1587 = .ok (.iload 4, 2) := by decide +kernel
theorem dL_law__1589 : decode cL_law_ 1589 = .ok (.iconst 1, 1) := by decide +kernel
theorem dL_law__1590 : decode cL_law_ 1590 = .ok (.iadd, 1) := by decide +kernel
theorem dL_law__1591 : decode cL_law_ 1591 = .ok (.iaload, 1) := by decide +kernel
theorem dL_law__1592 : decode cL_law_ 1592 = .ok (.aload_n 0, 1) := by decide +kernel
theorem dL_law__1593 : decode cL_law_ 1593 = .ok (.iload 4, 2) := by decide +kernel
theorem dL_law__1595 : decode cL_law_ 1595 = .ok (.iconst 2, 1) := by decide +kernel
theorem dL_law__1596 : decode cL_law_ 1596 = .ok (.iadd, 1) := by decide +kernel
theorem dL_law__1597 : decode cL_law_ 1597 = .ok (.iaload, 1) := by decide +kernel
theorem dL_law__1598 : decode cL_law_ 1598 = .ok (.ifCond .eq 7, 3) := by decide +kernel
theorem dL_law__1601 : decode cL_law_ 1601 = .ok (.iconst 1, 1) := by decide +kernel
theorem dL_law__1602 : decode cL_law_ 1602 = .ok (.goto 4, 3) := by decide +kernel
theorem dL_law__1605 : decode cL_law_ 1605 = .ok (.iconst 0, 1) := by decide +kernel
theorem dL_law__1606 : decode cL_law_ 1606 = .ok (.aload_n 3, 1) := by decide +kernel
theorem dL_law__1607 : decode cL_law_ 1607 = .ok (.invokestatic 240, 3) := by decide +kernel
theorem dL_law__1610 : decode cL_law_ 1610 = .ok (.istore 5, 2) := by decide +kernel
theorem dL_law__1612 : decode cL_law_ 1612 = .ok (.aload_n 2, 1) := by decide +kernel
theorem dL_law__1613 : decode cL_law_ 1613 = .ok (.aload_n 0, 1) := by decide +kernel
theorem dL_law__1614 : decode cL_law_ 1614 = .ok (.iload 4, 2) := by decide +kernel
theorem dL_law__1616 : decode cL_law_ 1616 = .ok (.iconst 1, 1) := by decide +kernel
theorem dL_law__1617 : decode cL_law_ 1617 = .ok (.iadd, 1) := by decide +kernel
theorem dL_law__1618 : decode cL_law_ 1618 = .ok (.iaload, 1) := by decide +kernel
theorem dL_law__1619 : decode cL_law_ 1619 = .ok (.aload_n 0, 1) := by decide +kernel
theorem dL_law__1620 : decode cL_law_ 1620 = .ok (.iload 4, 2) := by decide +kernel
theorem dL_law__1622 : decode cL_law_ 1622 = .ok (.iconst 2, 1) := by decide +kernel
theorem dL_law__1623 : decode cL_law_ 1623 = .ok (.iadd, 1) := by decide +kernel
theorem dL_law__1624 : decode cL_law_ 1624 = .ok (.iaload, 1) := by decide +kernel
theorem dL_law__1625 : decode cL_law_ 1625 = .ok (.ifCond .eq 7, 3) := by decide +kernel
theorem dL_law__1628 : decode cL_law_ 1628 = .ok (.iconst 1, 1) := by decide +kernel
theorem dL_law__1629 : decode cL_law_ 1629 = .ok (.goto 4, 3) := by decide +kernel
theorem dL_law__1632 : decode cL_law_ 1632 = .ok (.iconst 0, 1) := by decide +kernel
theorem dL_law__1633 : decode cL_law_ 1633 = .ok (.invokevirtual 243, 3) := by decide +kernel
theorem dL_law__1636 : decode cL_law_ 1636 = .ok (.istore 6, 2) := by decide +kernel
theorem dL_law__1638 : decode cL_law_ 1638 = .ok (.aload_n 2, 1) := by decide +kernel
theorem dL_law__1639 : decode cL_law_ 1639 = .ok (.invokevirtual 175, 3) := by decide +kernel
theorem dL_law__1642 : decode cL_law_ 1642 = .ok (.iload 5, 2) := by decide +kernel
theorem dL_law__1644 : decode cL_law_ 1644 = .ok (.if_icmp .eq 5, 3) := by decide +kernel
theorem dL_law__1647 : decode cL_law_ 1647 = .ok (.iconst 0, 1) := by decide +kernel
theorem dL_law__1649 : decode cL_law_ 1649 = .ok (.iload 5, 2) := by decide +kernel
theorem dL_law__1651 : decode cL_law_ 1651 = .ok (.ifCond .ne 15, 3) := by decide +kernel
theorem dL_law__1654 : decode cL_law_ 1654 = .ok (.aload_n 3, 1) := by decide +kernel
theorem dL_law__1655 : decode cL_law_ 1655 = .ok (.iconst 0, 1) := by decide +kernel
theorem dL_law__1656 : decode cL_law_ 1656 = .ok (.laload, 1) := by decide +kernel
theorem dL_law__1657 : decode cL_law_ 1657 = .ok (.iload 6, 2) := by decide +kernel
theorem dL_law__1659 : decode cL_law_ 1659 = .ok (.i2l, 1) := by decide +kernel
theorem dL_law__1660 : decode cL_law_ 1660 = .ok (.lcmp, 1) := by decide +kernel
theorem dL_law__1661 : decode cL_law_ 1661 = .ok (.ifCond .eq 5, 3) := by decide +kernel
theorem dL_law__1664 : decode cL_law_ 1664 = .ok (.iconst 0, 1) := by decide +kernel
theorem dL_law__1666 : decode cL_law_ 1666 = .ok (.goto 1867, 3) := by decide +kernel
def m_L_case_18 (xs : Nat → Int) (L : Nat) (kc : Int → D9 → Option R9) (v4 : Int) (d : D9) : Option R9 := scr xs L (v4 + 1) (fun t1 => scr xs L (v4 + 2) (fun t2 => if w32 t2 = 0 then cz (m_L_bound t1 0 d) (fun r3 d4 => scr xs L (v4 + 1) (fun t5 => scr xs L (v4 + 2) (fun t6 => if w32 t6 = 0 then cz (m_X12_bound_174 t5 0 d4) (fun r7 d8 => cz (m_X12_thrown_174 d8) (fun r9 d10 => if w32 r9 = w32 r3 then if w32 r3 ≠ 0 then kc (v4 + 7) d10 else ld d10 194 1 0 (fun t11 => if w64 t11 = w64 (w32 r7) then kc (v4 + 7) d10 else none) else none)) else cz (m_X12_bound_174 t5 1 d4) (fun r12 d13 => cz (m_X12_thrown_174 d13) (fun r14 d15 => if w32 r14 = w32 r3 then if w32 r3 ≠ 0 then kc (v4 + 7) d15 else ld d15 194 1 0 (fun t16 => if w64 t16 = w64 (w32 r12) then kc (v4 + 7) d15 else none) else none))))) else cz (m_L_bound t1 1 d) (fun r17 d18 => scr xs L (v4 + 1) (fun t19 => scr xs L (v4 + 2) (fun t20 => if w32 t20 = 0 then cz (m_X12_bound_174 t19 0 d18) (fun r21 d22 => cz (m_X12_thrown_174 d22) (fun r23 d24 => if w32 r23 = w32 r17 then if w32 r17 ≠ 0 then kc (v4 + 7) d24 else ld d24 194 1 0 (fun t25 => if w64 t25 = w64 (w32 r21) then kc (v4 + 7) d24 else none) else none)) else cz (m_X12_bound_174 t19 1 d18) (fun r26 d27 => cz (m_X12_thrown_174 d27) (fun r28 d29 => if w32 r28 = w32 r17 then if w32 r17 ≠ 0 then kc (v4 + 7) d29 else ld d29 194 1 0 (fun t30 => if w64 t30 = w64 (w32 r26) then kc (v4 + 7) d29 else none) else none)))))))
set_option maxRecDepth 100000 in
theorem s_L_case_18 {G : G9} {X : X9} (C : CX G X cL_law_ 8 RL [] zL9) (hNc : NC9 (xS X)) {b L : Nat} {xs : Nat → Int} (hSC : SCX G X b L xs) {k n : Nat} (hk : k + 12 ≤ 601024) (hn : n + 80 ≤ 7293034) (kc : Int → D9 → Option R9) (hkc : ∀ (v4 : Int) (d : D9), SS G X 8 (k + 12) (n + 80) 23 [(0, scf b), (1, rf G 0), (2, rf G 174), (3, rf G 194), (4, i9 v4)] [] d (kc v4 d)) : ∀ (v4 : Int) (d : D9), SS G X 8 k n 1585 [(0, scf b), (1, rf G 0), (2, rf G 174), (3, rf G 194), (4, i9 v4)] [] d (m_L_case_18 xs L kc v4 d) := by
  intro v4 d
  unfold m_L_case_18
  refine r_aload_n C 1 dL_law__1585 rfl rfl ?_
  refine r_aload_nC C 0 dL_law__1586 rfl rfl ?_
  refine r_iload C 4 dL_law__1587 rfl ?_
  refine r_iconst C dL_law__1589 ?_
  refine r_iadd C dL_law__1590 ?_
  refine r_scld C hSC dL_law__1591 (fun t1 => ?_)
  refine r_aload_nC C 0 dL_law__1592 rfl rfl ?_
  refine r_iload C 4 dL_law__1593 rfl ?_
  refine r_iconst C dL_law__1595 ?_
  refine r_iadd C dL_law__1596 ?_
  refine r_scld C hSC dL_law__1597 (fun t2 => ?_)
  refine r_if_eq C (b := 0) 1605 dL_law__1598 (by decide) (fun _ => ?_) (fun _ => ?_)
  · refine r_iconst C dL_law__1605 ?_
    refine r_aload_n C 3 dL_law__1606 rfl rfl ?_
    refine r_callHL C hNc [rf G 194, i9 0, i9 t1, rf G 0] dL_law__1607 (t_L_bound C.h1 C.h2 t1 0 d) mwh_L_240 (by decide) (show k + 1 ≤ 601024 by omega) (show n + 6 ≤ 7293034 by omega) rfl rfl (Nat.le_of_ble_eq_true rfl) (fun r3 d4 => ?_)
    show SS G X 8 (k + 1) (n + 6) 1610 [(0, scf b), (1, rf G 0), (2, rf G 174), (3, rf G 194), (4, i9 v4)] [i9 r3] d4 _
    refine r_istore C [(5, i9 r3), (0, scf b), (1, rf G 0), (2, rf G 174), (3, rf G 194), (4, i9 v4)] dL_law__1610 (by decide) rfl ?_
    refine r_aload_n C 3 dL_law__1612 rfl rfl ?_
    refine r_aload_nC C 1 dL_law__1613 rfl rfl ?_
    refine r_iload C 5 dL_law__1614 rfl ?_
    refine r_iconst C dL_law__1616 ?_
    refine r_iadd C dL_law__1617 ?_
    refine r_scld C hSC dL_law__1618 (fun t5 => ?_)
    refine r_aload_nC C 1 dL_law__1619 rfl rfl ?_
    refine r_iload C 5 dL_law__1620 rfl ?_
    refine r_iconst C dL_law__1622 ?_
    refine r_iadd C dL_law__1623 ?_
    refine r_scld C hSC dL_law__1624 (fun t6 => ?_)
    refine r_if_eq C (b := 0) 1632 dL_law__1625 (by decide) (fun _ => ?_) (fun _ => ?_)
    · refine r_iconst C dL_law__1632 ?_
      refine r_callVL C [i9 0, i9 t5, rf G 174] dL_law__1633 (t_X12_bound_174 C.h1 C.h2 t5 0 d4) mw_L_243 mv_X12_bound la_174 ly_174 rfl (by decide) (show k + 1 + 0 ≤ 601024 by omega) (show n + 6 + 0 ≤ 7293034 by omega) rfl rfl (Nat.le_of_ble_eq_true rfl) (fun r7 d8 => ?_)
      show SS G X 8 (k + 1 + 0) (n + 6 + 0) 1636 [(5, i9 r3), (0, scf b), (1, rf G 0), (2, rf G 174), (3, rf G 194), (4, i9 v4)] [i9 r7] d8 _
      refine r_istore C [(6, i9 r7), (5, i9 r3), (0, scf b), (1, rf G 0), (2, rf G 174), (3, rf G 194), (4, i9 v4)] dL_law__1636 (by decide) rfl ?_
      refine r_aload_n C 4 dL_law__1638 rfl rfl ?_
      refine r_callVL C [rf G 174] dL_law__1639 (t_X12_thrown_174 C.h1 C.h2 d8) mw_L_175 mv_X12_thrown la_174 ly_174 rfl (by decide) (show k + 1 + 0 + 0 ≤ 601024 by omega) (show n + 6 + 0 + 0 ≤ 7293034 by omega) rfl rfl (Nat.le_of_ble_eq_true rfl) (fun r9 d10 => ?_)
      show SS G X 8 (k + 1 + 0 + 0) (n + 6 + 0 + 0) 1642 [(6, i9 r7), (5, i9 r3), (0, scf b), (1, rf G 0), (2, rf G 174), (3, rf G 194), (4, i9 v4)] [i9 r9] d10 _
      refine r_iload C 1 dL_law__1642 rfl ?_
      refine r_icmp_eq C 1649 dL_law__1644 (by decide) (fun _ => ?_) (fun _ => ?_)
      · refine r_iload C 1 dL_law__1649 rfl ?_
        refine r_if_ne C (b := 0) 1666 dL_law__1651 (by decide) (fun _ => ?_) (fun _ => ?_)
        · refine r_goto C 3533 dL_law__1666 (by decide) ?_
          refine r_iinc C 6 [(4, i9 (v4 + 7)), (6, i9 r7), (5, i9 r3), (0, scf b), (1, rf G 0), (2, rf G 174), (3, rf G 194)] dL_law__3533 rfl (by decide) rfl ?_
          refine r_goto C 23 dL_law__3536 (by decide) ?_
          refine ss_wide (k' := k + 12) (n' := n + 80) (show k + 1 + 0 + 0 ≤ k + 12 by omega) (show n + 6 + 0 + 0 ≤ n + 80 by omega) ?_
          refine ss_ls [(0, scf b), (1, rf G 0), (2, rf G 174), (3, rf G 194), (4, i9 (v4 + 7))] [3, 4, 5, 6, 0] rfl ?_
          exact hkc (v4 + 7) d10
        · refine r_aload_n C 5 dL_law__1654 rfl rfl ?_
          refine r_iconst C dL_law__1655 ?_
          refine r_lald C dL_law__1656 la_194 ly_194 (fun t11 => ?_)
          refine r_iload C 0 dL_law__1657 rfl ?_
          refine r_i2l C dL_law__1659 ?_
          refine r_lcmp_eq C 1666 dL_law__1660 dL_law__1661 (by decide) (fun _ => ?_) (fun _ => ?_)
          · refine r_goto C 3533 dL_law__1666 (by decide) ?_
            refine r_iinc C 6 [(4, i9 (v4 + 7)), (6, i9 r7), (5, i9 r3), (0, scf b), (1, rf G 0), (2, rf G 174), (3, rf G 194)] dL_law__3533 rfl (by decide) rfl ?_
            refine r_goto C 23 dL_law__3536 (by decide) ?_
            refine ss_wide (k' := k + 12) (n' := n + 80) (show k + 1 + 0 + 0 ≤ k + 12 by omega) (show n + 6 + 0 + 0 ≤ n + 80 by omega) ?_
            refine ss_ls [(0, scf b), (1, rf G 0), (2, rf G 174), (3, rf G 194), (4, i9 (v4 + 7))] [3, 4, 5, 6, 0] rfl ?_
            exact hkc (v4 + 7) d10
          · refine r_iconst C dL_law__1664 ?_
            exact ss_none
      · refine r_iconst C dL_law__1647 ?_
        exact ss_none
    · refine r_iconst C dL_law__1628 ?_
      refine r_goto C 1633 dL_law__1629 (by decide) ?_
      refine r_callVL C [i9 1, i9 t5, rf G 174] dL_law__1633 (t_X12_bound_174 C.h1 C.h2 t5 1 d4) mw_L_243 mv_X12_bound la_174 ly_174 rfl (by decide) (show k + 1 + 0 ≤ 601024 by omega) (show n + 6 + 0 ≤ 7293034 by omega) rfl rfl (Nat.le_of_ble_eq_true rfl) (fun r12 d13 => ?_)
      show SS G X 8 (k + 1 + 0) (n + 6 + 0) 1636 [(5, i9 r3), (0, scf b), (1, rf G 0), (2, rf G 174), (3, rf G 194), (4, i9 v4)] [i9 r12] d13 _
      refine r_istore C [(6, i9 r12), (5, i9 r3), (0, scf b), (1, rf G 0), (2, rf G 174), (3, rf G 194), (4, i9 v4)] dL_law__1636 (by decide) rfl ?_
      refine r_aload_n C 4 dL_law__1638 rfl rfl ?_
      refine r_callVL C [rf G 174] dL_law__1639 (t_X12_thrown_174 C.h1 C.h2 d13) mw_L_175 mv_X12_thrown la_174 ly_174 rfl (by decide) (show k + 1 + 0 + 0 ≤ 601024 by omega) (show n + 6 + 0 + 0 ≤ 7293034 by omega) rfl rfl (Nat.le_of_ble_eq_true rfl) (fun r14 d15 => ?_)
      show SS G X 8 (k + 1 + 0 + 0) (n + 6 + 0 + 0) 1642 [(6, i9 r12), (5, i9 r3), (0, scf b), (1, rf G 0), (2, rf G 174), (3, rf G 194), (4, i9 v4)] [i9 r14] d15 _
      refine r_iload C 1 dL_law__1642 rfl ?_
      refine r_icmp_eq C 1649 dL_law__1644 (by decide) (fun _ => ?_) (fun _ => ?_)
      · refine r_iload C 1 dL_law__1649 rfl ?_
        refine r_if_ne C (b := 0) 1666 dL_law__1651 (by decide) (fun _ => ?_) (fun _ => ?_)
        · refine r_goto C 3533 dL_law__1666 (by decide) ?_
          refine r_iinc C 6 [(4, i9 (v4 + 7)), (6, i9 r12), (5, i9 r3), (0, scf b), (1, rf G 0), (2, rf G 174), (3, rf G 194)] dL_law__3533 rfl (by decide) rfl ?_
          refine r_goto C 23 dL_law__3536 (by decide) ?_
          refine ss_wide (k' := k + 12) (n' := n + 80) (show k + 1 + 0 + 0 ≤ k + 12 by omega) (show n + 6 + 0 + 0 ≤ n + 80 by omega) ?_
          refine ss_ls [(0, scf b), (1, rf G 0), (2, rf G 174), (3, rf G 194), (4, i9 (v4 + 7))] [3, 4, 5, 6, 0] rfl ?_
          exact hkc (v4 + 7) d15
        · refine r_aload_n C 5 dL_law__1654 rfl rfl ?_
          refine r_iconst C dL_law__1655 ?_
          refine r_lald C dL_law__1656 la_194 ly_194 (fun t16 => ?_)
          refine r_iload C 0 dL_law__1657 rfl ?_
          refine r_i2l C dL_law__1659 ?_
          refine r_lcmp_eq C 1666 dL_law__1660 dL_law__1661 (by decide) (fun _ => ?_) (fun _ => ?_)
          · refine r_goto C 3533 dL_law__1666 (by decide) ?_
            refine r_iinc C 6 [(4, i9 (v4 + 7)), (6, i9 r12), (5, i9 r3), (0, scf b), (1, rf G 0), (2, rf G 174), (3, rf G 194)] dL_law__3533 rfl (by decide) rfl ?_
            refine r_goto C 23 dL_law__3536 (by decide) ?_
            refine ss_wide (k' := k + 12) (n' := n + 80) (show k + 1 + 0 + 0 ≤ k + 12 by omega) (show n + 6 + 0 + 0 ≤ n + 80 by omega) ?_
            refine ss_ls [(0, scf b), (1, rf G 0), (2, rf G 174), (3, rf G 194), (4, i9 (v4 + 7))] [3, 4, 5, 6, 0] rfl ?_
            exact hkc (v4 + 7) d15
          · refine r_iconst C dL_law__1664 ?_
            exact ss_none
      · refine r_iconst C dL_law__1647 ?_
        exact ss_none
  · refine r_iconst C dL_law__1601 ?_
    refine r_goto C 1606 dL_law__1602 (by decide) ?_
    refine r_aload_n C 3 dL_law__1606 rfl rfl ?_
    refine r_callHL C hNc [rf G 194, i9 1, i9 t1, rf G 0] dL_law__1607 (t_L_bound C.h1 C.h2 t1 1 d) mwh_L_240 (by decide) (show k + 1 ≤ 601024 by omega) (show n + 6 ≤ 7293034 by omega) rfl rfl (Nat.le_of_ble_eq_true rfl) (fun r17 d18 => ?_)
    show SS G X 8 (k + 1) (n + 6) 1610 [(0, scf b), (1, rf G 0), (2, rf G 174), (3, rf G 194), (4, i9 v4)] [i9 r17] d18 _
    refine r_istore C [(5, i9 r17), (0, scf b), (1, rf G 0), (2, rf G 174), (3, rf G 194), (4, i9 v4)] dL_law__1610 (by decide) rfl ?_
    refine r_aload_n C 3 dL_law__1612 rfl rfl ?_
    refine r_aload_nC C 1 dL_law__1613 rfl rfl ?_
    refine r_iload C 5 dL_law__1614 rfl ?_
    refine r_iconst C dL_law__1616 ?_
    refine r_iadd C dL_law__1617 ?_
    refine r_scld C hSC dL_law__1618 (fun t19 => ?_)
    refine r_aload_nC C 1 dL_law__1619 rfl rfl ?_
    refine r_iload C 5 dL_law__1620 rfl ?_
    refine r_iconst C dL_law__1622 ?_
    refine r_iadd C dL_law__1623 ?_
    refine r_scld C hSC dL_law__1624 (fun t20 => ?_)
    refine r_if_eq C (b := 0) 1632 dL_law__1625 (by decide) (fun _ => ?_) (fun _ => ?_)
    · refine r_iconst C dL_law__1632 ?_
      refine r_callVL C [i9 0, i9 t19, rf G 174] dL_law__1633 (t_X12_bound_174 C.h1 C.h2 t19 0 d18) mw_L_243 mv_X12_bound la_174 ly_174 rfl (by decide) (show k + 1 + 0 ≤ 601024 by omega) (show n + 6 + 0 ≤ 7293034 by omega) rfl rfl (Nat.le_of_ble_eq_true rfl) (fun r21 d22 => ?_)
      show SS G X 8 (k + 1 + 0) (n + 6 + 0) 1636 [(5, i9 r17), (0, scf b), (1, rf G 0), (2, rf G 174), (3, rf G 194), (4, i9 v4)] [i9 r21] d22 _
      refine r_istore C [(6, i9 r21), (5, i9 r17), (0, scf b), (1, rf G 0), (2, rf G 174), (3, rf G 194), (4, i9 v4)] dL_law__1636 (by decide) rfl ?_
      refine r_aload_n C 4 dL_law__1638 rfl rfl ?_
      refine r_callVL C [rf G 174] dL_law__1639 (t_X12_thrown_174 C.h1 C.h2 d22) mw_L_175 mv_X12_thrown la_174 ly_174 rfl (by decide) (show k + 1 + 0 + 0 ≤ 601024 by omega) (show n + 6 + 0 + 0 ≤ 7293034 by omega) rfl rfl (Nat.le_of_ble_eq_true rfl) (fun r23 d24 => ?_)
      show SS G X 8 (k + 1 + 0 + 0) (n + 6 + 0 + 0) 1642 [(6, i9 r21), (5, i9 r17), (0, scf b), (1, rf G 0), (2, rf G 174), (3, rf G 194), (4, i9 v4)] [i9 r23] d24 _
      refine r_iload C 1 dL_law__1642 rfl ?_
      refine r_icmp_eq C 1649 dL_law__1644 (by decide) (fun _ => ?_) (fun _ => ?_)
      · refine r_iload C 1 dL_law__1649 rfl ?_
        refine r_if_ne C (b := 0) 1666 dL_law__1651 (by decide) (fun _ => ?_) (fun _ => ?_)
        · refine r_goto C 3533 dL_law__1666 (by decide) ?_
          refine r_iinc C 6 [(4, i9 (v4 + 7)), (6, i9 r21), (5, i9 r17), (0, scf b), (1, rf G 0), (2, rf G 174), (3, rf G 194)] dL_law__3533 rfl (by decide) rfl ?_
          refine r_goto C 23 dL_law__3536 (by decide) ?_
          refine ss_wide (k' := k + 12) (n' := n + 80) (show k + 1 + 0 + 0 ≤ k + 12 by omega) (show n + 6 + 0 + 0 ≤ n + 80 by omega) ?_
          refine ss_ls [(0, scf b), (1, rf G 0), (2, rf G 174), (3, rf G 194), (4, i9 (v4 + 7))] [3, 4, 5, 6, 0] rfl ?_
          exact hkc (v4 + 7) d24
        · refine r_aload_n C 5 dL_law__1654 rfl rfl ?_
          refine r_iconst C dL_law__1655 ?_
          refine r_lald C dL_law__1656 la_194 ly_194 (fun t25 => ?_)
          refine r_iload C 0 dL_law__1657 rfl ?_
          refine r_i2l C dL_law__1659 ?_
          refine r_lcmp_eq C 1666 dL_law__1660 dL_law__1661 (by decide) (fun _ => ?_) (fun _ => ?_)
          · refine r_goto C 3533 dL_law__1666 (by decide) ?_
            refine r_iinc C 6 [(4, i9 (v4 + 7)), (6, i9 r21), (5, i9 r17), (0, scf b), (1, rf G 0), (2, rf G 174), (3, rf G 194)] dL_law__3533 rfl (by decide) rfl ?_
            refine r_goto C 23 dL_law__3536 (by decide) ?_
            refine ss_wide (k' := k + 12) (n' := n + 80) (show k + 1 + 0 + 0 ≤ k + 12 by omega) (show n + 6 + 0 + 0 ≤ n + 80 by omega) ?_
            refine ss_ls [(0, scf b), (1, rf G 0), (2, rf G 174), (3, rf G 194), (4, i9 (v4 + 7))] [3, 4, 5, 6, 0] rfl ?_
            exact hkc (v4 + 7) d24
          · refine r_iconst C dL_law__1664 ?_
            exact ss_none
      · refine r_iconst C dL_law__1647 ?_
        exact ss_none
    · refine r_iconst C dL_law__1628 ?_
      refine r_goto C 1633 dL_law__1629 (by decide) ?_
      refine r_callVL C [i9 1, i9 t19, rf G 174] dL_law__1633 (t_X12_bound_174 C.h1 C.h2 t19 1 d18) mw_L_243 mv_X12_bound la_174 ly_174 rfl (by decide) (show k + 1 + 0 ≤ 601024 by omega) (show n + 6 + 0 ≤ 7293034 by omega) rfl rfl (Nat.le_of_ble_eq_true rfl) (fun r26 d27 => ?_)
      show SS G X 8 (k + 1 + 0) (n + 6 + 0) 1636 [(5, i9 r17), (0, scf b), (1, rf G 0), (2, rf G 174), (3, rf G 194), (4, i9 v4)] [i9 r26] d27 _
      refine r_istore C [(6, i9 r26), (5, i9 r17), (0, scf b), (1, rf G 0), (2, rf G 174), (3, rf G 194), (4, i9 v4)] dL_law__1636 (by decide) rfl ?_
      refine r_aload_n C 4 dL_law__1638 rfl rfl ?_
      refine r_callVL C [rf G 174] dL_law__1639 (t_X12_thrown_174 C.h1 C.h2 d27) mw_L_175 mv_X12_thrown la_174 ly_174 rfl (by decide) (show k + 1 + 0 + 0 ≤ 601024 by omega) (show n + 6 + 0 + 0 ≤ 7293034 by omega) rfl rfl (Nat.le_of_ble_eq_true rfl) (fun r28 d29 => ?_)
      show SS G X 8 (k + 1 + 0 + 0) (n + 6 + 0 + 0) 1642 [(6, i9 r26), (5, i9 r17), (0, scf b), (1, rf G 0), (2, rf G 174), (3, rf G 194), (4, i9 v4)] [i9 r28] d29 _
      refine r_iload C 1 dL_law__1642 rfl ?_
      refine r_icmp_eq C 1649 dL_law__1644 (by decide) (fun _ => ?_) (fun _ => ?_)
      · refine r_iload C 1 dL_law__1649 rfl ?_
        refine r_if_ne C (b := 0) 1666 dL_law__1651 (by decide) (fun _ => ?_) (fun _ => ?_)
        · refine r_goto C 3533 dL_law__1666 (by decide) ?_
          refine r_iinc C 6 [(4, i9 (v4 + 7)), (6, i9 r26), (5, i9 r17), (0, scf b), (1, rf G 0), (2, rf G 174), (3, rf G 194)] dL_law__3533 rfl (by decide) rfl ?_
          refine r_goto C 23 dL_law__3536 (by decide) ?_
          refine ss_wide (k' := k + 12) (n' := n + 80) (show k + 1 + 0 + 0 ≤ k + 12 by omega) (show n + 6 + 0 + 0 ≤ n + 80 by omega) ?_
          refine ss_ls [(0, scf b), (1, rf G 0), (2, rf G 174), (3, rf G 194), (4, i9 (v4 + 7))] [3, 4, 5, 6, 0] rfl ?_
          exact hkc (v4 + 7) d29
        · refine r_aload_n C 5 dL_law__1654 rfl rfl ?_
          refine r_iconst C dL_law__1655 ?_
          refine r_lald C dL_law__1656 la_194 ly_194 (fun t30 => ?_)
          refine r_iload C 0 dL_law__1657 rfl ?_
          refine r_i2l C dL_law__1659 ?_
          refine r_lcmp_eq C 1666 dL_law__1660 dL_law__1661 (by decide) (fun _ => ?_) (fun _ => ?_)
          · refine r_goto C 3533 dL_law__1666 (by decide) ?_
            refine r_iinc C 6 [(4, i9 (v4 + 7)), (6, i9 r26), (5, i9 r17), (0, scf b), (1, rf G 0), (2, rf G 174), (3, rf G 194)] dL_law__3533 rfl (by decide) rfl ?_
            refine r_goto C 23 dL_law__3536 (by decide) ?_
            refine ss_wide (k' := k + 12) (n' := n + 80) (show k + 1 + 0 + 0 ≤ k + 12 by omega) (show n + 6 + 0 + 0 ≤ n + 80 by omega) ?_
            refine ss_ls [(0, scf b), (1, rf G 0), (2, rf G 174), (3, rf G 194), (4, i9 (v4 + 7))] [3, 4, 5, 6, 0] rfl ?_
            exact hkc (v4 + 7) d29
          · refine r_iconst C dL_law__1664 ?_
            exact ss_none
      · refine r_iconst C dL_law__1647 ?_
        exact ss_none
theorem dL_law__1669 : decode cL_law_ 1669 = .ok (.aload_n 1, 1) := by decide +kernel
theorem dL_law__1670 : decode cL_law_ 1670 = .ok (.aload_n 0, 1) := by decide +kernel
theorem dL_law__1671 : decode cL_law_ 1671 = .ok (.iload 4, 2) := by decide +kernel
theorem dL_law__1673 : decode cL_law_ 1673 = .ok (.iconst 1, 1) := by decide +kernel
theorem dL_law__1674 : decode cL_law_ 1674 = .ok (.iadd, 1) := by decide +kernel
theorem dL_law__1675 : decode cL_law_ 1675 = .ok (.iaload, 1) := by decide +kernel
theorem dL_law__1676 : decode cL_law_ 1676 = .ok (.invokevirtual 244, 3) := by decide +kernel
theorem dL_law__1679 : decode cL_law_ 1679 = .ok (.aload_n 2, 1) := by decide +kernel
theorem dL_law__1680 : decode cL_law_ 1680 = .ok (.aload_n 0, 1) := by decide +kernel
theorem dL_law__1681 : decode cL_law_ 1681 = .ok (.iload 4, 2) := by decide +kernel
theorem dL_law__1683 : decode cL_law_ 1683 = .ok (.iconst 1, 1) := by decide +kernel
theorem dL_law__1684 : decode cL_law_ 1684 = .ok (.iadd, 1) := by decide +kernel
theorem dL_law__1685 : decode cL_law_ 1685 = .ok (.iaload, 1) := by decide +kernel
theorem dL_law__1686 : decode cL_law_ 1686 = .ok (.invokevirtual 247, 3) := by decide +kernel
theorem dL_law__1689 : decode cL_law_ 1689 = .ok (.if_icmp .eq 1844, 3) := by decide +kernel
theorem dL_law__1692 : decode cL_law_ 1692 = .ok (.iconst 0, 1) := by decide +kernel
def m_L_case_19 (xs : Nat → Int) (L : Nat) (kc : Int → D9 → Option R9) (v4 : Int) (d : D9) : Option R9 := scr xs L (v4 + 1) (fun t1 => cz (m_X11_clash_0 t1 d) (fun r2 d3 => scr xs L (v4 + 1) (fun t4 => cz (m_X12_clash_174 t4 d3) (fun r5 d6 => if w32 r2 = w32 r5 then kc (v4 + 7) d6 else none))))
set_option maxRecDepth 100000 in
theorem s_L_case_19 {G : G9} {X : X9} (C : CX G X cL_law_ 8 RL [] zL9) (hNc : NC9 (xS X)) {b L : Nat} {xs : Nat → Int} (hSC : SCX G X b L xs) {k n : Nat} (hk : k + 12 ≤ 601024) (hn : n + 80 ≤ 7293034) (kc : Int → D9 → Option R9) (hkc : ∀ (v4 : Int) (d : D9), SS G X 8 (k + 12) (n + 80) 23 [(0, scf b), (1, rf G 0), (2, rf G 174), (3, rf G 194), (4, i9 v4)] [] d (kc v4 d)) : ∀ (v4 : Int) (d : D9), SS G X 8 k n 1669 [(0, scf b), (1, rf G 0), (2, rf G 174), (3, rf G 194), (4, i9 v4)] [] d (m_L_case_19 xs L kc v4 d) := by
  intro v4 d
  unfold m_L_case_19
  refine r_aload_n C 1 dL_law__1669 rfl rfl ?_
  refine r_aload_nC C 0 dL_law__1670 rfl rfl ?_
  refine r_iload C 4 dL_law__1671 rfl ?_
  refine r_iconst C dL_law__1673 ?_
  refine r_iadd C dL_law__1674 ?_
  refine r_scld C hSC dL_law__1675 (fun t1 => ?_)
  refine r_callVL C [i9 t1, rf G 0] dL_law__1676 (t_X11_clash_0 C.h1 C.h2 t1 d) mw_L_244 mv_X11_clash la_0 ly_0 rfl (by decide) (show k + 0 ≤ 601024 by omega) (show n + 0 ≤ 7293034 by omega) rfl rfl (Nat.le_of_ble_eq_true rfl) (fun r2 d3 => ?_)
  show SS G X 8 (k + 0) (n + 0) 1679 [(0, scf b), (1, rf G 0), (2, rf G 174), (3, rf G 194), (4, i9 v4)] [i9 r2] d3 _
  refine r_aload_n C 2 dL_law__1679 rfl rfl ?_
  refine r_aload_nC C 0 dL_law__1680 rfl rfl ?_
  refine r_iload C 4 dL_law__1681 rfl ?_
  refine r_iconst C dL_law__1683 ?_
  refine r_iadd C dL_law__1684 ?_
  refine r_scld C hSC dL_law__1685 (fun t4 => ?_)
  refine r_callVL C [i9 t4, rf G 174, i9 r2] dL_law__1686 (t_X12_clash_174 C.h1 C.h2 t4 d3) mw_L_247 mv_X12_clash la_174 ly_174 rfl (by decide) (show k + 0 + 0 ≤ 601024 by omega) (show n + 0 + 0 ≤ 7293034 by omega) rfl rfl (Nat.le_of_ble_eq_true rfl) (fun r5 d6 => ?_)
  show SS G X 8 (k + 0 + 0) (n + 0 + 0) 1689 [(0, scf b), (1, rf G 0), (2, rf G 174), (3, rf G 194), (4, i9 v4)] [i9 r5, i9 r2] d6 _
  refine r_icmp_eq C 3533 dL_law__1689 (by decide) (fun _ => ?_) (fun _ => ?_)
  · refine r_iinc C 4 [(4, i9 (v4 + 7)), (0, scf b), (1, rf G 0), (2, rf G 174), (3, rf G 194)] dL_law__3533 rfl (by decide) rfl ?_
    refine r_goto C 23 dL_law__3536 (by decide) ?_
    refine ss_wide (k' := k + 12) (n' := n + 80) (show k + 0 + 0 ≤ k + 12 by omega) (show n + 0 + 0 ≤ n + 80 by omega) ?_
    refine ss_ls [(0, scf b), (1, rf G 0), (2, rf G 174), (3, rf G 194), (4, i9 (v4 + 7))] [1, 2, 3, 4, 0] rfl ?_
    exact hkc (v4 + 7) d6
  · refine r_iconst C dL_law__1692 ?_
    exact ss_none
theorem dL_law__1694 : decode cL_law_ 1694 = .ok (.aload_n 1, 1) := by decide +kernel
theorem dL_law__1695 : decode cL_law_ 1695 = .ok (.aload_n 0, 1) := by decide +kernel
theorem dL_law__1696 : decode cL_law_ 1696 = .ok (.iload 4, 2) := by decide +kernel
theorem dL_law__1698 : decode cL_law_ 1698 = .ok (.iconst 1, 1) := by decide +kernel
theorem dL_law__1699 : decode cL_law_ 1699 = .ok (.iadd, 1) := by decide +kernel
theorem dL_law__1700 : decode cL_law_ 1700 = .ok (.iaload, 1) := by decide +kernel
theorem dL_law__1701 : decode cL_law_ 1701 = .ok (.aload_n 3, 1) := by decide +kernel
theorem dL_law__1702 : decode cL_law_ 1702 = .ok (.invokestatic 248, 3) := by decide +kernel
theorem dL_law__1705 : decode cL_law_ 1705 = .ok (.istore 5, 2) := by decide +kernel
theorem dL_law__1707 : decode cL_law_ 1707 = .ok (.aload_n 2, 1) := by decide +kernel
theorem dL_law__1708 : decode cL_law_ 1708 = .ok (.aload_n 0, 1) := by decide +kernel
theorem dL_law__1709 : decode cL_law_ 1709 = .ok (.iload 4, 2) := by decide +kernel
theorem dL_law__1711 : decode cL_law_ 1711 = .ok (.iconst 1, 1) := by decide +kernel
theorem dL_law__1712 : decode cL_law_ 1712 = .ok (.iadd, 1) := by decide +kernel
theorem dL_law__1713 : decode cL_law_ 1713 = .ok (.iaload, 1) := by decide +kernel
theorem dL_law__1714 : decode cL_law_ 1714 = .ok (.invokevirtual 250, 3) := by decide +kernel
theorem dL_law__1717 : decode cL_law_ 1717 = .ok (.istore 6, 2) := by decide +kernel
theorem dL_law__1719 : decode cL_law_ 1719 = .ok (.aload_n 2, 1) := by decide +kernel
theorem dL_law__1720 : decode cL_law_ 1720 = .ok (.invokevirtual 175, 3) := by decide +kernel
theorem dL_law__1723 : decode cL_law_ 1723 = .ok (.iload 5, 2) := by decide +kernel
theorem dL_law__1725 : decode cL_law_ 1725 = .ok (.if_icmp .eq 5, 3) := by decide +kernel
theorem dL_law__1728 : decode cL_law_ 1728 = .ok (.iconst 0, 1) := by decide +kernel
theorem dL_law__1730 : decode cL_law_ 1730 = .ok (.iload 5, 2) := by decide +kernel
theorem dL_law__1732 : decode cL_law_ 1732 = .ok (.ifCond .ne 22, 3) := by decide +kernel
theorem dL_law__1735 : decode cL_law_ 1735 = .ok (.aload_n 3, 1) := by decide +kernel
theorem dL_law__1736 : decode cL_law_ 1736 = .ok (.iconst 0, 1) := by decide +kernel
theorem dL_law__1737 : decode cL_law_ 1737 = .ok (.laload, 1) := by decide +kernel
theorem dL_law__1738 : decode cL_law_ 1738 = .ok (.iload 6, 2) := by decide +kernel
theorem dL_law__1740 : decode cL_law_ 1740 = .ok (.ifCond .eq 7, 3) := by decide +kernel
theorem dL_law__1743 : decode cL_law_ 1743 = .ok (.lconst 1, 1) := by decide +kernel
theorem dL_law__1744 : decode cL_law_ 1744 = .ok (.goto 4, 3) := by decide +kernel
theorem dL_law__1747 : decode cL_law_ 1747 = .ok (.lconst 0, 1) := by decide +kernel
theorem dL_law__1748 : decode cL_law_ 1748 = .ok (.lcmp, 1) := by decide +kernel
theorem dL_law__1749 : decode cL_law_ 1749 = .ok (.ifCond .eq 5, 3) := by decide +kernel
theorem dL_law__1752 : decode cL_law_ 1752 = .ok (.iconst 0, 1) := by decide +kernel
theorem dL_law__1754 : decode cL_law_ 1754 = .ok (.goto 1779, 3) := by decide +kernel
def m_L_case_20 (xs : Nat → Int) (L : Nat) (kc : Int → D9 → Option R9) (v4 : Int) (d : D9) : Option R9 := scr xs L (v4 + 1) (fun t1 => cz (m_L_ring t1 d) (fun r2 d3 => scr xs L (v4 + 1) (fun t4 => cz (m_X12_ring_174 t4 d3) (fun r5 d6 => cz (m_X12_thrown_174 d6) (fun r7 d8 => if w32 r7 = w32 r2 then if w32 r2 ≠ 0 then kc (v4 + 7) d8 else ld d8 194 1 0 (fun t9 => if w32 r5 = 0 then if w64 t9 = w64 0 then kc (v4 + 7) d8 else none else if w64 t9 = w64 1 then kc (v4 + 7) d8 else none) else none)))))
set_option maxRecDepth 100000 in
theorem s_L_case_20 {G : G9} {X : X9} (C : CX G X cL_law_ 8 RL [] zL9) (hNc : NC9 (xS X)) {b L : Nat} {xs : Nat → Int} (hSC : SCX G X b L xs) {k n : Nat} (hk : k + 12 ≤ 601024) (hn : n + 80 ≤ 7293034) (kc : Int → D9 → Option R9) (hkc : ∀ (v4 : Int) (d : D9), SS G X 8 (k + 12) (n + 80) 23 [(0, scf b), (1, rf G 0), (2, rf G 174), (3, rf G 194), (4, i9 v4)] [] d (kc v4 d)) : ∀ (v4 : Int) (d : D9), SS G X 8 k n 1694 [(0, scf b), (1, rf G 0), (2, rf G 174), (3, rf G 194), (4, i9 v4)] [] d (m_L_case_20 xs L kc v4 d) := by
  intro v4 d
  unfold m_L_case_20
  refine r_aload_n C 1 dL_law__1694 rfl rfl ?_
  refine r_aload_nC C 0 dL_law__1695 rfl rfl ?_
  refine r_iload C 4 dL_law__1696 rfl ?_
  refine r_iconst C dL_law__1698 ?_
  refine r_iadd C dL_law__1699 ?_
  refine r_scld C hSC dL_law__1700 (fun t1 => ?_)
  refine r_aload_n C 3 dL_law__1701 rfl rfl ?_
  refine r_callHL C hNc [rf G 194, i9 t1, rf G 0] dL_law__1702 (t_L_ring C.h1 C.h2 t1 d) mwh_L_248 (by decide) (show k + 1 ≤ 601024 by omega) (show n + 6 ≤ 7293034 by omega) rfl rfl (Nat.le_of_ble_eq_true rfl) (fun r2 d3 => ?_)
  show SS G X 8 (k + 1) (n + 6) 1705 [(0, scf b), (1, rf G 0), (2, rf G 174), (3, rf G 194), (4, i9 v4)] [i9 r2] d3 _
  refine r_istore C [(5, i9 r2), (0, scf b), (1, rf G 0), (2, rf G 174), (3, rf G 194), (4, i9 v4)] dL_law__1705 (by decide) rfl ?_
  refine r_aload_n C 3 dL_law__1707 rfl rfl ?_
  refine r_aload_nC C 1 dL_law__1708 rfl rfl ?_
  refine r_iload C 5 dL_law__1709 rfl ?_
  refine r_iconst C dL_law__1711 ?_
  refine r_iadd C dL_law__1712 ?_
  refine r_scld C hSC dL_law__1713 (fun t4 => ?_)
  refine r_callVL C [i9 t4, rf G 174] dL_law__1714 (t_X12_ring_174 C.h1 C.h2 t4 d3) mw_L_250 mv_X12_ring la_174 ly_174 rfl (by decide) (show k + 1 + 0 ≤ 601024 by omega) (show n + 6 + 0 ≤ 7293034 by omega) rfl rfl (Nat.le_of_ble_eq_true rfl) (fun r5 d6 => ?_)
  show SS G X 8 (k + 1 + 0) (n + 6 + 0) 1717 [(5, i9 r2), (0, scf b), (1, rf G 0), (2, rf G 174), (3, rf G 194), (4, i9 v4)] [i9 r5] d6 _
  refine r_istore C [(6, i9 r5), (5, i9 r2), (0, scf b), (1, rf G 0), (2, rf G 174), (3, rf G 194), (4, i9 v4)] dL_law__1717 (by decide) rfl ?_
  refine r_aload_n C 4 dL_law__1719 rfl rfl ?_
  refine r_callVL C [rf G 174] dL_law__1720 (t_X12_thrown_174 C.h1 C.h2 d6) mw_L_175 mv_X12_thrown la_174 ly_174 rfl (by decide) (show k + 1 + 0 + 0 ≤ 601024 by omega) (show n + 6 + 0 + 0 ≤ 7293034 by omega) rfl rfl (Nat.le_of_ble_eq_true rfl) (fun r7 d8 => ?_)
  show SS G X 8 (k + 1 + 0 + 0) (n + 6 + 0 + 0) 1723 [(6, i9 r5), (5, i9 r2), (0, scf b), (1, rf G 0), (2, rf G 174), (3, rf G 194), (4, i9 v4)] [i9 r7] d8 _
  refine r_iload C 1 dL_law__1723 rfl ?_
  refine r_icmp_eq C 1730 dL_law__1725 (by decide) (fun _ => ?_) (fun _ => ?_)
  · refine r_iload C 1 dL_law__1730 rfl ?_
    refine r_if_ne C (b := 0) 1754 dL_law__1732 (by decide) (fun _ => ?_) (fun _ => ?_)
    · refine r_goto C 3533 dL_law__1754 (by decide) ?_
      refine r_iinc C 6 [(4, i9 (v4 + 7)), (6, i9 r5), (5, i9 r2), (0, scf b), (1, rf G 0), (2, rf G 174), (3, rf G 194)] dL_law__3533 rfl (by decide) rfl ?_
      refine r_goto C 23 dL_law__3536 (by decide) ?_
      refine ss_wide (k' := k + 12) (n' := n + 80) (show k + 1 + 0 + 0 ≤ k + 12 by omega) (show n + 6 + 0 + 0 ≤ n + 80 by omega) ?_
      refine ss_ls [(0, scf b), (1, rf G 0), (2, rf G 174), (3, rf G 194), (4, i9 (v4 + 7))] [3, 4, 5, 6, 0] rfl ?_
      exact hkc (v4 + 7) d8
    · refine r_aload_n C 5 dL_law__1735 rfl rfl ?_
      refine r_iconst C dL_law__1736 ?_
      refine r_lald C dL_law__1737 la_194 ly_194 (fun t9 => ?_)
      refine r_iload C 0 dL_law__1738 rfl ?_
      refine r_if_eq C (b := 0) 1747 dL_law__1740 (by decide) (fun _ => ?_) (fun _ => ?_)
      · refine r_lconst C dL_law__1747 (a := 0) rfl ?_
        refine r_lcmp_eq C 1754 dL_law__1748 dL_law__1749 (by decide) (fun _ => ?_) (fun _ => ?_)
        · refine r_goto C 3533 dL_law__1754 (by decide) ?_
          refine r_iinc C 6 [(4, i9 (v4 + 7)), (6, i9 r5), (5, i9 r2), (0, scf b), (1, rf G 0), (2, rf G 174), (3, rf G 194)] dL_law__3533 rfl (by decide) rfl ?_
          refine r_goto C 23 dL_law__3536 (by decide) ?_
          refine ss_wide (k' := k + 12) (n' := n + 80) (show k + 1 + 0 + 0 ≤ k + 12 by omega) (show n + 6 + 0 + 0 ≤ n + 80 by omega) ?_
          refine ss_ls [(0, scf b), (1, rf G 0), (2, rf G 174), (3, rf G 194), (4, i9 (v4 + 7))] [3, 4, 5, 6, 0] rfl ?_
          exact hkc (v4 + 7) d8
        · refine r_iconst C dL_law__1752 ?_
          exact ss_none
      · refine r_lconst C dL_law__1743 (a := 1) rfl ?_
        refine r_goto C 1748 dL_law__1744 (by decide) ?_
        refine r_lcmp_eq C 1754 dL_law__1748 dL_law__1749 (by decide) (fun _ => ?_) (fun _ => ?_)
        · refine r_goto C 3533 dL_law__1754 (by decide) ?_
          refine r_iinc C 6 [(4, i9 (v4 + 7)), (6, i9 r5), (5, i9 r2), (0, scf b), (1, rf G 0), (2, rf G 174), (3, rf G 194)] dL_law__3533 rfl (by decide) rfl ?_
          refine r_goto C 23 dL_law__3536 (by decide) ?_
          refine ss_wide (k' := k + 12) (n' := n + 80) (show k + 1 + 0 + 0 ≤ k + 12 by omega) (show n + 6 + 0 + 0 ≤ n + 80 by omega) ?_
          refine ss_ls [(0, scf b), (1, rf G 0), (2, rf G 174), (3, rf G 194), (4, i9 (v4 + 7))] [3, 4, 5, 6, 0] rfl ?_
          exact hkc (v4 + 7) d8
        · refine r_iconst C dL_law__1752 ?_
          exact ss_none
  · refine r_iconst C dL_law__1728 ?_
    exact ss_none
theorem dL_law__1757 : decode cL_law_ 1757 = .ok (.aload_n 1, 1) := by decide +kernel
theorem dL_law__1758 : decode cL_law_ 1758 = .ok (.aload_n 0, 1) := by decide +kernel
theorem dL_law__1759 : decode cL_law_ 1759 = .ok (.iload 4, 2) := by decide +kernel
theorem dL_law__1761 : decode cL_law_ 1761 = .ok (.iconst 1, 1) := by decide +kernel
theorem dL_law__1762 : decode cL_law_ 1762 = .ok (.iadd, 1) := by decide +kernel
theorem dL_law__1763 : decode cL_law_ 1763 = .ok (.iaload, 1) := by decide +kernel
theorem dL_law__1764 : decode cL_law_ 1764 = .ok (.aload_n 0, 1) := by decide +kernel
theorem dL_law__1765 : decode cL_law_ 1765 = .ok (.iload 4, 2) := by decide +kernel
theorem dL_law__1767 : decode cL_law_ 1767 = .ok (.iconst 2, 1) := by decide +kernel
theorem dL_law__1768 : decode cL_law_ 1768 = .ok (.iadd, 1) := by decide +kernel
theorem dL_law__1769 : decode cL_law_ 1769 = .ok (.iaload, 1) := by decide +kernel
theorem dL_law__1770 : decode cL_law_ 1770 = .ok (.aload_n 3, 1) := by decide +kernel
theorem dL_law__1771 : decode cL_law_ 1771 = .ok (.invokestatic 251, 3) := by decide +kernel
theorem dL_law__1774 : decode cL_law_ 1774 = .ok (.istore 5, 2) := by decide +kernel
theorem dL_law__1776 : decode cL_law_ 1776 = .ok (.aload_n 2, 1) := by decide +kernel
theorem dL_law__1777 : decode cL_law_ 1777 = .ok (.aload_n 0, 1) := by decide +kernel
theorem dL_law__1778 : decode cL_law_ 1778 = .ok (.iload 4, 2) := by decide +kernel
theorem dL_law__1780 : decode cL_law_ 1780 = .ok (.iconst 1, 1) := by decide +kernel
theorem dL_law__1781 : decode cL_law_ 1781 = .ok (.iadd, 1) := by decide +kernel
theorem dL_law__1782 : decode cL_law_ 1782 = .ok (.iaload, 1) := by decide +kernel
theorem dL_law__1783 : decode cL_law_ 1783 = .ok (.aload_n 0, 1) := by decide +kernel
theorem dL_law__1784 : decode cL_law_ 1784 = .ok (.iload 4, 2) := by decide +kernel
theorem dL_law__1786 : decode cL_law_ 1786 = .ok (.iconst 2, 1) := by decide +kernel
theorem dL_law__1787 : decode cL_law_ 1787 = .ok (.iadd, 1) := by decide +kernel
theorem dL_law__1788 : decode cL_law_ 1788 = .ok (.iaload, 1) := by decide +kernel
theorem dL_law__1789 : decode cL_law_ 1789 = .ok (.invokevirtual 253, 3) := by decide +kernel
theorem dL_law__1792 : decode cL_law_ 1792 = .ok (.istore 6, 2) := by decide +kernel
theorem dL_law__1794 : decode cL_law_ 1794 = .ok (.aload_n 2, 1) := by decide +kernel
theorem dL_law__1795 : decode cL_law_ 1795 = .ok (.invokevirtual 175, 3) := by decide +kernel
theorem dL_law__1798 : decode cL_law_ 1798 = .ok (.iload 5, 2) := by decide +kernel
theorem dL_law__1800 : decode cL_law_ 1800 = .ok (.if_icmp .eq 5, 3) := by decide +kernel
theorem dL_law__1803 : decode cL_law_ 1803 = .ok (.iconst 0, 1) := by decide +kernel
theorem dL_law__1805 : decode cL_law_ 1805 = .ok (.iload 5, 2) := by decide +kernel
theorem dL_law__1807 : decode cL_law_ 1807 = .ok (.ifCond .ne 22, 3) := by decide +kernel
theorem dL_law__1810 : decode cL_law_ 1810 = .ok (.aload_n 3, 1) := by decide +kernel
theorem dL_law__1811 : decode cL_law_ 1811 = .ok (.iconst 0, 1) := by decide +kernel
theorem dL_law__1812 : decode cL_law_ 1812 = .ok (.laload, 1) := by decide +kernel
theorem dL_law__1813 : decode cL_law_ 1813 = .ok (.iload 6, 2) := by decide +kernel
theorem dL_law__1815 : decode cL_law_ 1815 = .ok (.ifCond .eq 7, 3) := by decide +kernel
theorem dL_law__1818 : decode cL_law_ 1818 = .ok (.lconst 1, 1) := by decide +kernel
theorem dL_law__1819 : decode cL_law_ 1819 = .ok (.goto 4, 3) := by decide +kernel
theorem dL_law__1822 : decode cL_law_ 1822 = .ok (.lconst 0, 1) := by decide +kernel
theorem dL_law__1823 : decode cL_law_ 1823 = .ok (.lcmp, 1) := by decide +kernel
theorem dL_law__1824 : decode cL_law_ 1824 = .ok (.ifCond .eq 5, 3) := by decide +kernel
theorem dL_law__1827 : decode cL_law_ 1827 = .ok (.iconst 0, 1) := by decide +kernel
theorem dL_law__1829 : decode cL_law_ 1829 = .ok (.goto 1704, 3) := by decide +kernel
def m_L_case_21 (xs : Nat → Int) (L : Nat) (kc : Int → D9 → Option R9) (v4 : Int) (d : D9) : Option R9 := scr xs L (v4 + 1) (fun t1 => scr xs L (v4 + 2) (fun t2 => cz (m_L_above t1 t2 d) (fun r3 d4 => scr xs L (v4 + 1) (fun t5 => scr xs L (v4 + 2) (fun t6 => cz (m_X12_above_174 t5 t6 d4) (fun r7 d8 => cz (m_X12_thrown_174 d8) (fun r9 d10 => if w32 r9 = w32 r3 then if w32 r3 ≠ 0 then kc (v4 + 7) d10 else ld d10 194 1 0 (fun t11 => if w32 r7 = 0 then if w64 t11 = w64 0 then kc (v4 + 7) d10 else none else if w64 t11 = w64 1 then kc (v4 + 7) d10 else none) else none)))))))
set_option maxRecDepth 100000 in
theorem s_L_case_21 {G : G9} {X : X9} (C : CX G X cL_law_ 8 RL [] zL9) (hNc : NC9 (xS X)) {b L : Nat} {xs : Nat → Int} (hSC : SCX G X b L xs) {k n : Nat} (hk : k + 12 ≤ 601024) (hn : n + 80 ≤ 7293034) (kc : Int → D9 → Option R9) (hkc : ∀ (v4 : Int) (d : D9), SS G X 8 (k + 12) (n + 80) 23 [(0, scf b), (1, rf G 0), (2, rf G 174), (3, rf G 194), (4, i9 v4)] [] d (kc v4 d)) : ∀ (v4 : Int) (d : D9), SS G X 8 k n 1757 [(0, scf b), (1, rf G 0), (2, rf G 174), (3, rf G 194), (4, i9 v4)] [] d (m_L_case_21 xs L kc v4 d) := by
  intro v4 d
  unfold m_L_case_21
  refine r_aload_n C 1 dL_law__1757 rfl rfl ?_
  refine r_aload_nC C 0 dL_law__1758 rfl rfl ?_
  refine r_iload C 4 dL_law__1759 rfl ?_
  refine r_iconst C dL_law__1761 ?_
  refine r_iadd C dL_law__1762 ?_
  refine r_scld C hSC dL_law__1763 (fun t1 => ?_)
  refine r_aload_nC C 0 dL_law__1764 rfl rfl ?_
  refine r_iload C 4 dL_law__1765 rfl ?_
  refine r_iconst C dL_law__1767 ?_
  refine r_iadd C dL_law__1768 ?_
  refine r_scld C hSC dL_law__1769 (fun t2 => ?_)
  refine r_aload_n C 3 dL_law__1770 rfl rfl ?_
  refine r_callHL C hNc [rf G 194, i9 t2, i9 t1, rf G 0] dL_law__1771 (t_L_above C.h1 C.h2 t1 t2 d) mwh_L_251 (by decide) (show k + 2 ≤ 601024 by omega) (show n + 12 ≤ 7293034 by omega) rfl rfl (Nat.le_of_ble_eq_true rfl) (fun r3 d4 => ?_)
  show SS G X 8 (k + 2) (n + 12) 1774 [(0, scf b), (1, rf G 0), (2, rf G 174), (3, rf G 194), (4, i9 v4)] [i9 r3] d4 _
  refine r_istore C [(5, i9 r3), (0, scf b), (1, rf G 0), (2, rf G 174), (3, rf G 194), (4, i9 v4)] dL_law__1774 (by decide) rfl ?_
  refine r_aload_n C 3 dL_law__1776 rfl rfl ?_
  refine r_aload_nC C 1 dL_law__1777 rfl rfl ?_
  refine r_iload C 5 dL_law__1778 rfl ?_
  refine r_iconst C dL_law__1780 ?_
  refine r_iadd C dL_law__1781 ?_
  refine r_scld C hSC dL_law__1782 (fun t5 => ?_)
  refine r_aload_nC C 1 dL_law__1783 rfl rfl ?_
  refine r_iload C 5 dL_law__1784 rfl ?_
  refine r_iconst C dL_law__1786 ?_
  refine r_iadd C dL_law__1787 ?_
  refine r_scld C hSC dL_law__1788 (fun t6 => ?_)
  refine r_callVL C [i9 t6, i9 t5, rf G 174] dL_law__1789 (t_X12_above_174 C.h1 C.h2 t5 t6 d4) mw_L_253 mv_X12_above la_174 ly_174 rfl (by decide) (show k + 2 + 0 ≤ 601024 by omega) (show n + 12 + 0 ≤ 7293034 by omega) rfl rfl (Nat.le_of_ble_eq_true rfl) (fun r7 d8 => ?_)
  show SS G X 8 (k + 2 + 0) (n + 12 + 0) 1792 [(5, i9 r3), (0, scf b), (1, rf G 0), (2, rf G 174), (3, rf G 194), (4, i9 v4)] [i9 r7] d8 _
  refine r_istore C [(6, i9 r7), (5, i9 r3), (0, scf b), (1, rf G 0), (2, rf G 174), (3, rf G 194), (4, i9 v4)] dL_law__1792 (by decide) rfl ?_
  refine r_aload_n C 4 dL_law__1794 rfl rfl ?_
  refine r_callVL C [rf G 174] dL_law__1795 (t_X12_thrown_174 C.h1 C.h2 d8) mw_L_175 mv_X12_thrown la_174 ly_174 rfl (by decide) (show k + 2 + 0 + 0 ≤ 601024 by omega) (show n + 12 + 0 + 0 ≤ 7293034 by omega) rfl rfl (Nat.le_of_ble_eq_true rfl) (fun r9 d10 => ?_)
  show SS G X 8 (k + 2 + 0 + 0) (n + 12 + 0 + 0) 1798 [(6, i9 r7), (5, i9 r3), (0, scf b), (1, rf G 0), (2, rf G 174), (3, rf G 194), (4, i9 v4)] [i9 r9] d10 _
  refine r_iload C 1 dL_law__1798 rfl ?_
  refine r_icmp_eq C 1805 dL_law__1800 (by decide) (fun _ => ?_) (fun _ => ?_)
  · refine r_iload C 1 dL_law__1805 rfl ?_
    refine r_if_ne C (b := 0) 1829 dL_law__1807 (by decide) (fun _ => ?_) (fun _ => ?_)
    · refine r_goto C 3533 dL_law__1829 (by decide) ?_
      refine r_iinc C 6 [(4, i9 (v4 + 7)), (6, i9 r7), (5, i9 r3), (0, scf b), (1, rf G 0), (2, rf G 174), (3, rf G 194)] dL_law__3533 rfl (by decide) rfl ?_
      refine r_goto C 23 dL_law__3536 (by decide) ?_
      refine ss_wide (k' := k + 12) (n' := n + 80) (show k + 2 + 0 + 0 ≤ k + 12 by omega) (show n + 12 + 0 + 0 ≤ n + 80 by omega) ?_
      refine ss_ls [(0, scf b), (1, rf G 0), (2, rf G 174), (3, rf G 194), (4, i9 (v4 + 7))] [3, 4, 5, 6, 0] rfl ?_
      exact hkc (v4 + 7) d10
    · refine r_aload_n C 5 dL_law__1810 rfl rfl ?_
      refine r_iconst C dL_law__1811 ?_
      refine r_lald C dL_law__1812 la_194 ly_194 (fun t11 => ?_)
      refine r_iload C 0 dL_law__1813 rfl ?_
      refine r_if_eq C (b := 0) 1822 dL_law__1815 (by decide) (fun _ => ?_) (fun _ => ?_)
      · refine r_lconst C dL_law__1822 (a := 0) rfl ?_
        refine r_lcmp_eq C 1829 dL_law__1823 dL_law__1824 (by decide) (fun _ => ?_) (fun _ => ?_)
        · refine r_goto C 3533 dL_law__1829 (by decide) ?_
          refine r_iinc C 6 [(4, i9 (v4 + 7)), (6, i9 r7), (5, i9 r3), (0, scf b), (1, rf G 0), (2, rf G 174), (3, rf G 194)] dL_law__3533 rfl (by decide) rfl ?_
          refine r_goto C 23 dL_law__3536 (by decide) ?_
          refine ss_wide (k' := k + 12) (n' := n + 80) (show k + 2 + 0 + 0 ≤ k + 12 by omega) (show n + 12 + 0 + 0 ≤ n + 80 by omega) ?_
          refine ss_ls [(0, scf b), (1, rf G 0), (2, rf G 174), (3, rf G 194), (4, i9 (v4 + 7))] [3, 4, 5, 6, 0] rfl ?_
          exact hkc (v4 + 7) d10
        · refine r_iconst C dL_law__1827 ?_
          exact ss_none
      · refine r_lconst C dL_law__1818 (a := 1) rfl ?_
        refine r_goto C 1823 dL_law__1819 (by decide) ?_
        refine r_lcmp_eq C 1829 dL_law__1823 dL_law__1824 (by decide) (fun _ => ?_) (fun _ => ?_)
        · refine r_goto C 3533 dL_law__1829 (by decide) ?_
          refine r_iinc C 6 [(4, i9 (v4 + 7)), (6, i9 r7), (5, i9 r3), (0, scf b), (1, rf G 0), (2, rf G 174), (3, rf G 194)] dL_law__3533 rfl (by decide) rfl ?_
          refine r_goto C 23 dL_law__3536 (by decide) ?_
          refine ss_wide (k' := k + 12) (n' := n + 80) (show k + 2 + 0 + 0 ≤ k + 12 by omega) (show n + 12 + 0 + 0 ≤ n + 80 by omega) ?_
          refine ss_ls [(0, scf b), (1, rf G 0), (2, rf G 174), (3, rf G 194), (4, i9 (v4 + 7))] [3, 4, 5, 6, 0] rfl ?_
          exact hkc (v4 + 7) d10
        · refine r_iconst C dL_law__1827 ?_
          exact ss_none
  · refine r_iconst C dL_law__1803 ?_
    exact ss_none
theorem dL_law__1832 : decode cL_law_ 1832 = .ok (.aload_n 1, 1) := by decide +kernel
theorem dL_law__1833 : decode cL_law_ 1833 = .ok (.aload_n 0, 1) := by decide +kernel
theorem dL_law__1834 : decode cL_law_ 1834 = .ok (.iload 4, 2) := by decide +kernel
theorem dL_law__1836 : decode cL_law_ 1836 = .ok (.iconst 1, 1) := by decide +kernel
theorem dL_law__1837 : decode cL_law_ 1837 = .ok (.iadd, 1) := by decide +kernel
theorem dL_law__1838 : decode cL_law_ 1838 = .ok (.iaload, 1) := by decide +kernel
theorem dL_law__1839 : decode cL_law_ 1839 = .ok (.aload_n 3, 1) := by decide +kernel
theorem dL_law__1840 : decode cL_law_ 1840 = .ok (.invokestatic 254, 3) := by decide +kernel
theorem dL_law__1843 : decode cL_law_ 1843 = .ok (.istore 5, 2) := by decide +kernel
theorem dL_law__1845 : decode cL_law_ 1845 = .ok (.aload_n 2, 1) := by decide +kernel
theorem dL_law__1846 : decode cL_law_ 1846 = .ok (.aload_n 0, 1) := by decide +kernel
theorem dL_law__1847 : decode cL_law_ 1847 = .ok (.iload 4, 2) := by decide +kernel
theorem dL_law__1849 : decode cL_law_ 1849 = .ok (.iconst 1, 1) := by decide +kernel
theorem dL_law__1850 : decode cL_law_ 1850 = .ok (.iadd, 1) := by decide +kernel
theorem dL_law__1851 : decode cL_law_ 1851 = .ok (.iaload, 1) := by decide +kernel
theorem dL_law__1852 : decode cL_law_ 1852 = .ok (.invokevirtual 256, 3) := by decide +kernel
theorem dL_law__1855 : decode cL_law_ 1855 = .ok (.istore 6, 2) := by decide +kernel
theorem dL_law__1857 : decode cL_law_ 1857 = .ok (.aload_n 2, 1) := by decide +kernel
theorem dL_law__1858 : decode cL_law_ 1858 = .ok (.invokevirtual 175, 3) := by decide +kernel
theorem dL_law__1861 : decode cL_law_ 1861 = .ok (.iload 5, 2) := by decide +kernel
theorem dL_law__1863 : decode cL_law_ 1863 = .ok (.if_icmp .eq 5, 3) := by decide +kernel
theorem dL_law__1866 : decode cL_law_ 1866 = .ok (.iconst 0, 1) := by decide +kernel
theorem dL_law__1868 : decode cL_law_ 1868 = .ok (.iload 5, 2) := by decide +kernel
theorem dL_law__1870 : decode cL_law_ 1870 = .ok (.ifCond .ne 15, 3) := by decide +kernel
theorem dL_law__1873 : decode cL_law_ 1873 = .ok (.aload_n 3, 1) := by decide +kernel
theorem dL_law__1874 : decode cL_law_ 1874 = .ok (.iconst 0, 1) := by decide +kernel
theorem dL_law__1875 : decode cL_law_ 1875 = .ok (.laload, 1) := by decide +kernel
theorem dL_law__1876 : decode cL_law_ 1876 = .ok (.iload 6, 2) := by decide +kernel
theorem dL_law__1878 : decode cL_law_ 1878 = .ok (.i2l, 1) := by decide +kernel
theorem dL_law__1879 : decode cL_law_ 1879 = .ok (.lcmp, 1) := by decide +kernel
theorem dL_law__1880 : decode cL_law_ 1880 = .ok (.ifCond .eq 5, 3) := by decide +kernel
theorem dL_law__1883 : decode cL_law_ 1883 = .ok (.iconst 0, 1) := by decide +kernel
theorem dL_law__1885 : decode cL_law_ 1885 = .ok (.goto 1648, 3) := by decide +kernel
def m_L_case_22 (xs : Nat → Int) (L : Nat) (kc : Int → D9 → Option R9) (v4 : Int) (d : D9) : Option R9 := scr xs L (v4 + 1) (fun t1 => cz (m_L_rests t1 d) (fun r2 d3 => scr xs L (v4 + 1) (fun t4 => cz (m_X12_rests_174 t4 d3) (fun r5 d6 => cz (m_X12_thrown_174 d6) (fun r7 d8 => if w32 r7 = w32 r2 then if w32 r2 ≠ 0 then kc (v4 + 7) d8 else ld d8 194 1 0 (fun t9 => if w64 t9 = w64 (w32 r5) then kc (v4 + 7) d8 else none) else none)))))
set_option maxRecDepth 100000 in
theorem s_L_case_22 {G : G9} {X : X9} (C : CX G X cL_law_ 8 RL [] zL9) (hNc : NC9 (xS X)) {b L : Nat} {xs : Nat → Int} (hSC : SCX G X b L xs) {k n : Nat} (hk : k + 12 ≤ 601024) (hn : n + 80 ≤ 7293034) (kc : Int → D9 → Option R9) (hkc : ∀ (v4 : Int) (d : D9), SS G X 8 (k + 12) (n + 80) 23 [(0, scf b), (1, rf G 0), (2, rf G 174), (3, rf G 194), (4, i9 v4)] [] d (kc v4 d)) : ∀ (v4 : Int) (d : D9), SS G X 8 k n 1832 [(0, scf b), (1, rf G 0), (2, rf G 174), (3, rf G 194), (4, i9 v4)] [] d (m_L_case_22 xs L kc v4 d) := by
  intro v4 d
  unfold m_L_case_22
  refine r_aload_n C 1 dL_law__1832 rfl rfl ?_
  refine r_aload_nC C 0 dL_law__1833 rfl rfl ?_
  refine r_iload C 4 dL_law__1834 rfl ?_
  refine r_iconst C dL_law__1836 ?_
  refine r_iadd C dL_law__1837 ?_
  refine r_scld C hSC dL_law__1838 (fun t1 => ?_)
  refine r_aload_n C 3 dL_law__1839 rfl rfl ?_
  refine r_callHL C hNc [rf G 194, i9 t1, rf G 0] dL_law__1840 (t_L_rests C.h1 C.h2 t1 d) mwh_L_254 (by decide) (show k + 1 ≤ 601024 by omega) (show n + 6 ≤ 7293034 by omega) rfl rfl (Nat.le_of_ble_eq_true rfl) (fun r2 d3 => ?_)
  show SS G X 8 (k + 1) (n + 6) 1843 [(0, scf b), (1, rf G 0), (2, rf G 174), (3, rf G 194), (4, i9 v4)] [i9 r2] d3 _
  refine r_istore C [(5, i9 r2), (0, scf b), (1, rf G 0), (2, rf G 174), (3, rf G 194), (4, i9 v4)] dL_law__1843 (by decide) rfl ?_
  refine r_aload_n C 3 dL_law__1845 rfl rfl ?_
  refine r_aload_nC C 1 dL_law__1846 rfl rfl ?_
  refine r_iload C 5 dL_law__1847 rfl ?_
  refine r_iconst C dL_law__1849 ?_
  refine r_iadd C dL_law__1850 ?_
  refine r_scld C hSC dL_law__1851 (fun t4 => ?_)
  refine r_callVL C [i9 t4, rf G 174] dL_law__1852 (t_X12_rests_174 C.h1 C.h2 t4 d3) mw_L_256 mv_X12_rests la_174 ly_174 rfl (by decide) (show k + 1 + 0 ≤ 601024 by omega) (show n + 6 + 0 ≤ 7293034 by omega) rfl rfl (Nat.le_of_ble_eq_true rfl) (fun r5 d6 => ?_)
  show SS G X 8 (k + 1 + 0) (n + 6 + 0) 1855 [(5, i9 r2), (0, scf b), (1, rf G 0), (2, rf G 174), (3, rf G 194), (4, i9 v4)] [i9 r5] d6 _
  refine r_istore C [(6, i9 r5), (5, i9 r2), (0, scf b), (1, rf G 0), (2, rf G 174), (3, rf G 194), (4, i9 v4)] dL_law__1855 (by decide) rfl ?_
  refine r_aload_n C 4 dL_law__1857 rfl rfl ?_
  refine r_callVL C [rf G 174] dL_law__1858 (t_X12_thrown_174 C.h1 C.h2 d6) mw_L_175 mv_X12_thrown la_174 ly_174 rfl (by decide) (show k + 1 + 0 + 0 ≤ 601024 by omega) (show n + 6 + 0 + 0 ≤ 7293034 by omega) rfl rfl (Nat.le_of_ble_eq_true rfl) (fun r7 d8 => ?_)
  show SS G X 8 (k + 1 + 0 + 0) (n + 6 + 0 + 0) 1861 [(6, i9 r5), (5, i9 r2), (0, scf b), (1, rf G 0), (2, rf G 174), (3, rf G 194), (4, i9 v4)] [i9 r7] d8 _
  refine r_iload C 1 dL_law__1861 rfl ?_
  refine r_icmp_eq C 1868 dL_law__1863 (by decide) (fun _ => ?_) (fun _ => ?_)
  · refine r_iload C 1 dL_law__1868 rfl ?_
    refine r_if_ne C (b := 0) 1885 dL_law__1870 (by decide) (fun _ => ?_) (fun _ => ?_)
    · refine r_goto C 3533 dL_law__1885 (by decide) ?_
      refine r_iinc C 6 [(4, i9 (v4 + 7)), (6, i9 r5), (5, i9 r2), (0, scf b), (1, rf G 0), (2, rf G 174), (3, rf G 194)] dL_law__3533 rfl (by decide) rfl ?_
      refine r_goto C 23 dL_law__3536 (by decide) ?_
      refine ss_wide (k' := k + 12) (n' := n + 80) (show k + 1 + 0 + 0 ≤ k + 12 by omega) (show n + 6 + 0 + 0 ≤ n + 80 by omega) ?_
      refine ss_ls [(0, scf b), (1, rf G 0), (2, rf G 174), (3, rf G 194), (4, i9 (v4 + 7))] [3, 4, 5, 6, 0] rfl ?_
      exact hkc (v4 + 7) d8
    · refine r_aload_n C 5 dL_law__1873 rfl rfl ?_
      refine r_iconst C dL_law__1874 ?_
      refine r_lald C dL_law__1875 la_194 ly_194 (fun t9 => ?_)
      refine r_iload C 0 dL_law__1876 rfl ?_
      refine r_i2l C dL_law__1878 ?_
      refine r_lcmp_eq C 1885 dL_law__1879 dL_law__1880 (by decide) (fun _ => ?_) (fun _ => ?_)
      · refine r_goto C 3533 dL_law__1885 (by decide) ?_
        refine r_iinc C 6 [(4, i9 (v4 + 7)), (6, i9 r5), (5, i9 r2), (0, scf b), (1, rf G 0), (2, rf G 174), (3, rf G 194)] dL_law__3533 rfl (by decide) rfl ?_
        refine r_goto C 23 dL_law__3536 (by decide) ?_
        refine ss_wide (k' := k + 12) (n' := n + 80) (show k + 1 + 0 + 0 ≤ k + 12 by omega) (show n + 6 + 0 + 0 ≤ n + 80 by omega) ?_
        refine ss_ls [(0, scf b), (1, rf G 0), (2, rf G 174), (3, rf G 194), (4, i9 (v4 + 7))] [3, 4, 5, 6, 0] rfl ?_
        exact hkc (v4 + 7) d8
      · refine r_iconst C dL_law__1883 ?_
        exact ss_none
  · refine r_iconst C dL_law__1866 ?_
    exact ss_none
theorem dL_law__1888 : decode cL_law_ 1888 = .ok (.aload_n 1, 1) := by decide +kernel
theorem dL_law__1889 : decode cL_law_ 1889 = .ok (.aload_n 0, 1) := by decide +kernel
theorem dL_law__1890 : decode cL_law_ 1890 = .ok (.iload 4, 2) := by decide +kernel
theorem dL_law__1892 : decode cL_law_ 1892 = .ok (.iconst 1, 1) := by decide +kernel
theorem dL_law__1893 : decode cL_law_ 1893 = .ok (.iadd, 1) := by decide +kernel
theorem dL_law__1894 : decode cL_law_ 1894 = .ok (.iaload, 1) := by decide +kernel
theorem dL_law__1895 : decode cL_law_ 1895 = .ok (.aload_n 0, 1) := by decide +kernel
theorem dL_law__1896 : decode cL_law_ 1896 = .ok (.iload 4, 2) := by decide +kernel
theorem dL_law__1898 : decode cL_law_ 1898 = .ok (.iconst 2, 1) := by decide +kernel
theorem dL_law__1899 : decode cL_law_ 1899 = .ok (.iadd, 1) := by decide +kernel
theorem dL_law__1900 : decode cL_law_ 1900 = .ok (.iaload, 1) := by decide +kernel
theorem dL_law__1901 : decode cL_law_ 1901 = .ok (.invokestatic 257, 3) := by decide +kernel
theorem dL_law__1904 : decode cL_law_ 1904 = .ok (.istore 5, 2) := by decide +kernel
theorem dL_law__1906 : decode cL_law_ 1906 = .ok (.aload_n 2, 1) := by decide +kernel
theorem dL_law__1907 : decode cL_law_ 1907 = .ok (.aload_n 0, 1) := by decide +kernel
theorem dL_law__1908 : decode cL_law_ 1908 = .ok (.iload 4, 2) := by decide +kernel
theorem dL_law__1910 : decode cL_law_ 1910 = .ok (.iconst 1, 1) := by decide +kernel
theorem dL_law__1911 : decode cL_law_ 1911 = .ok (.iadd, 1) := by decide +kernel
theorem dL_law__1912 : decode cL_law_ 1912 = .ok (.iaload, 1) := by decide +kernel
theorem dL_law__1913 : decode cL_law_ 1913 = .ok (.aload_n 0, 1) := by decide +kernel
theorem dL_law__1914 : decode cL_law_ 1914 = .ok (.iload 4, 2) := by decide +kernel
theorem dL_law__1916 : decode cL_law_ 1916 = .ok (.iconst 2, 1) := by decide +kernel
theorem dL_law__1917 : decode cL_law_ 1917 = .ok (.iadd, 1) := by decide +kernel
theorem dL_law__1918 : decode cL_law_ 1918 = .ok (.iaload, 1) := by decide +kernel
theorem dL_law__1919 : decode cL_law_ 1919 = .ok (.invokevirtual 260, 3) := by decide +kernel
theorem dL_law__1922 : decode cL_law_ 1922 = .ok (.aload_n 2, 1) := by decide +kernel
theorem dL_law__1923 : decode cL_law_ 1923 = .ok (.invokevirtual 175, 3) := by decide +kernel
theorem dL_law__1926 : decode cL_law_ 1926 = .ok (.iload 5, 2) := by decide +kernel
theorem dL_law__1928 : decode cL_law_ 1928 = .ok (.if_icmp .eq 5, 3) := by decide +kernel
theorem dL_law__1931 : decode cL_law_ 1931 = .ok (.iconst 0, 1) := by decide +kernel
theorem dL_law__1933 : decode cL_law_ 1933 = .ok (.goto 1600, 3) := by decide +kernel
def m_L_case_23 (xs : Nat → Int) (L : Nat) (kc : Int → D9 → Option R9) (v4 : Int) (d : D9) : Option R9 := scr xs L (v4 + 1) (fun t1 => scr xs L (v4 + 2) (fun t2 => cz (m_L_older t1 t2 d) (fun r3 d4 => scr xs L (v4 + 1) (fun t5 => scr xs L (v4 + 2) (fun t6 => cz (m_X12_older_174 t5 t6 d4) (fun r7 d8 => cz (m_X12_thrown_174 d8) (fun r9 d10 => if w32 r9 = w32 r3 then kc (v4 + 7) d10 else none)))))))
set_option maxRecDepth 100000 in
theorem s_L_case_23 {G : G9} {X : X9} (C : CX G X cL_law_ 8 RL [] zL9) (hNc : NC9 (xS X)) {b L : Nat} {xs : Nat → Int} (hSC : SCX G X b L xs) {k n : Nat} (hk : k + 12 ≤ 601024) (hn : n + 80 ≤ 7293034) (kc : Int → D9 → Option R9) (hkc : ∀ (v4 : Int) (d : D9), SS G X 8 (k + 12) (n + 80) 23 [(0, scf b), (1, rf G 0), (2, rf G 174), (3, rf G 194), (4, i9 v4)] [] d (kc v4 d)) : ∀ (v4 : Int) (d : D9), SS G X 8 k n 1888 [(0, scf b), (1, rf G 0), (2, rf G 174), (3, rf G 194), (4, i9 v4)] [] d (m_L_case_23 xs L kc v4 d) := by
  intro v4 d
  unfold m_L_case_23
  refine r_aload_n C 1 dL_law__1888 rfl rfl ?_
  refine r_aload_nC C 0 dL_law__1889 rfl rfl ?_
  refine r_iload C 4 dL_law__1890 rfl ?_
  refine r_iconst C dL_law__1892 ?_
  refine r_iadd C dL_law__1893 ?_
  refine r_scld C hSC dL_law__1894 (fun t1 => ?_)
  refine r_aload_nC C 0 dL_law__1895 rfl rfl ?_
  refine r_iload C 4 dL_law__1896 rfl ?_
  refine r_iconst C dL_law__1898 ?_
  refine r_iadd C dL_law__1899 ?_
  refine r_scld C hSC dL_law__1900 (fun t2 => ?_)
  refine r_callHL C hNc [i9 t2, i9 t1, rf G 0] dL_law__1901 (t_L_older C.h1 C.h2 t1 t2 d) mwh_L_257 (by decide) (show k + 2 ≤ 601024 by omega) (show n + 12 ≤ 7293034 by omega) rfl rfl (Nat.le_of_ble_eq_true rfl) (fun r3 d4 => ?_)
  show SS G X 8 (k + 2) (n + 12) 1904 [(0, scf b), (1, rf G 0), (2, rf G 174), (3, rf G 194), (4, i9 v4)] [i9 r3] d4 _
  refine r_istore C [(5, i9 r3), (0, scf b), (1, rf G 0), (2, rf G 174), (3, rf G 194), (4, i9 v4)] dL_law__1904 (by decide) rfl ?_
  refine r_aload_n C 3 dL_law__1906 rfl rfl ?_
  refine r_aload_nC C 1 dL_law__1907 rfl rfl ?_
  refine r_iload C 5 dL_law__1908 rfl ?_
  refine r_iconst C dL_law__1910 ?_
  refine r_iadd C dL_law__1911 ?_
  refine r_scld C hSC dL_law__1912 (fun t5 => ?_)
  refine r_aload_nC C 1 dL_law__1913 rfl rfl ?_
  refine r_iload C 5 dL_law__1914 rfl ?_
  refine r_iconst C dL_law__1916 ?_
  refine r_iadd C dL_law__1917 ?_
  refine r_scld C hSC dL_law__1918 (fun t6 => ?_)
  refine r_callVL C [i9 t6, i9 t5, rf G 174] dL_law__1919 (t_X12_older_174 C.h1 C.h2 t5 t6 d4) mw_L_260 mv_X12_older la_174 ly_174 rfl (by decide) (show k + 2 + 0 ≤ 601024 by omega) (show n + 12 + 0 ≤ 7293034 by omega) rfl rfl (Nat.le_of_ble_eq_true rfl) (fun r7 d8 => ?_)
  show SS G X 8 (k + 2 + 0) (n + 12 + 0) 1922 [(5, i9 r3), (0, scf b), (1, rf G 0), (2, rf G 174), (3, rf G 194), (4, i9 v4)] [] d8 _
  refine r_aload_n C 3 dL_law__1922 rfl rfl ?_
  refine r_callVL C [rf G 174] dL_law__1923 (t_X12_thrown_174 C.h1 C.h2 d8) mw_L_175 mv_X12_thrown la_174 ly_174 rfl (by decide) (show k + 2 + 0 + 0 ≤ 601024 by omega) (show n + 12 + 0 + 0 ≤ 7293034 by omega) rfl rfl (Nat.le_of_ble_eq_true rfl) (fun r9 d10 => ?_)
  show SS G X 8 (k + 2 + 0 + 0) (n + 12 + 0 + 0) 1926 [(5, i9 r3), (0, scf b), (1, rf G 0), (2, rf G 174), (3, rf G 194), (4, i9 v4)] [i9 r9] d10 _
  refine r_iload C 0 dL_law__1926 rfl ?_
  refine r_icmp_eq C 1933 dL_law__1928 (by decide) (fun _ => ?_) (fun _ => ?_)
  · refine r_goto C 3533 dL_law__1933 (by decide) ?_
    refine r_iinc C 5 [(4, i9 (v4 + 7)), (5, i9 r3), (0, scf b), (1, rf G 0), (2, rf G 174), (3, rf G 194)] dL_law__3533 rfl (by decide) rfl ?_
    refine r_goto C 23 dL_law__3536 (by decide) ?_
    refine ss_wide (k' := k + 12) (n' := n + 80) (show k + 2 + 0 + 0 ≤ k + 12 by omega) (show n + 12 + 0 + 0 ≤ n + 80 by omega) ?_
    refine ss_ls [(0, scf b), (1, rf G 0), (2, rf G 174), (3, rf G 194), (4, i9 (v4 + 7))] [2, 3, 4, 5, 0] rfl ?_
    exact hkc (v4 + 7) d10
  · refine r_iconst C dL_law__1931 ?_
    exact ss_none
theorem dL_law__1936 : decode cL_law_ 1936 = .ok (.aload_n 1, 1) := by decide +kernel
theorem dL_law__1937 : decode cL_law_ 1937 = .ok (.aload_n 0, 1) := by decide +kernel
theorem dL_law__1938 : decode cL_law_ 1938 = .ok (.iload 4, 2) := by decide +kernel
theorem dL_law__1940 : decode cL_law_ 1940 = .ok (.iconst 1, 1) := by decide +kernel
theorem dL_law__1941 : decode cL_law_ 1941 = .ok (.iadd, 1) := by decide +kernel
theorem dL_law__1942 : decode cL_law_ 1942 = .ok (.iaload, 1) := by decide +kernel
theorem dL_law__1943 : decode cL_law_ 1943 = .ok (.invokestatic 261, 3) := by decide +kernel
theorem dL_law__1946 : decode cL_law_ 1946 = .ok (.istore 5, 2) := by decide +kernel
theorem dL_law__1948 : decode cL_law_ 1948 = .ok (.aload_n 2, 1) := by decide +kernel
theorem dL_law__1949 : decode cL_law_ 1949 = .ok (.aload_n 0, 1) := by decide +kernel
theorem dL_law__1950 : decode cL_law_ 1950 = .ok (.iload 4, 2) := by decide +kernel
theorem dL_law__1952 : decode cL_law_ 1952 = .ok (.iconst 1, 1) := by decide +kernel
theorem dL_law__1953 : decode cL_law_ 1953 = .ok (.iadd, 1) := by decide +kernel
theorem dL_law__1954 : decode cL_law_ 1954 = .ok (.iaload, 1) := by decide +kernel
theorem dL_law__1955 : decode cL_law_ 1955 = .ok (.invokevirtual 263, 3) := by decide +kernel
theorem dL_law__1958 : decode cL_law_ 1958 = .ok (.aload_n 2, 1) := by decide +kernel
theorem dL_law__1959 : decode cL_law_ 1959 = .ok (.invokevirtual 175, 3) := by decide +kernel
theorem dL_law__1962 : decode cL_law_ 1962 = .ok (.iload 5, 2) := by decide +kernel
theorem dL_law__1964 : decode cL_law_ 1964 = .ok (.if_icmp .eq 5, 3) := by decide +kernel
theorem dL_law__1967 : decode cL_law_ 1967 = .ok (.iconst 0, 1) := by decide +kernel
theorem dL_law__1969 : decode cL_law_ 1969 = .ok (.goto 1564, 3) := by decide +kernel
def m_L_case_24 (xs : Nat → Int) (L : Nat) (kc : Int → D9 → Option R9) (v4 : Int) (d : D9) : Option R9 := scr xs L (v4 + 1) (fun t1 => cz (m_L_many t1 d) (fun r2 d3 => scr xs L (v4 + 1) (fun t4 => cz (m_X12_many_174 t4 d3) (fun r5 d6 => cz (m_X12_thrown_174 d6) (fun r7 d8 => if w32 r7 = w32 r2 then kc (v4 + 7) d8 else none)))))
set_option maxRecDepth 100000 in
theorem s_L_case_24 {G : G9} {X : X9} (C : CX G X cL_law_ 8 RL [] zL9) (hNc : NC9 (xS X)) {b L : Nat} {xs : Nat → Int} (hSC : SCX G X b L xs) {k n : Nat} (hk : k + 12 ≤ 601024) (hn : n + 80 ≤ 7293034) (kc : Int → D9 → Option R9) (hkc : ∀ (v4 : Int) (d : D9), SS G X 8 (k + 12) (n + 80) 23 [(0, scf b), (1, rf G 0), (2, rf G 174), (3, rf G 194), (4, i9 v4)] [] d (kc v4 d)) : ∀ (v4 : Int) (d : D9), SS G X 8 k n 1936 [(0, scf b), (1, rf G 0), (2, rf G 174), (3, rf G 194), (4, i9 v4)] [] d (m_L_case_24 xs L kc v4 d) := by
  intro v4 d
  unfold m_L_case_24
  refine r_aload_n C 1 dL_law__1936 rfl rfl ?_
  refine r_aload_nC C 0 dL_law__1937 rfl rfl ?_
  refine r_iload C 4 dL_law__1938 rfl ?_
  refine r_iconst C dL_law__1940 ?_
  refine r_iadd C dL_law__1941 ?_
  refine r_scld C hSC dL_law__1942 (fun t1 => ?_)
  refine r_callHL C hNc [i9 t1, rf G 0] dL_law__1943 (t_L_many C.h1 C.h2 t1 d) mwh_L_261 (by decide) (show k + 1 ≤ 601024 by omega) (show n + 6 ≤ 7293034 by omega) rfl rfl (Nat.le_of_ble_eq_true rfl) (fun r2 d3 => ?_)
  show SS G X 8 (k + 1) (n + 6) 1946 [(0, scf b), (1, rf G 0), (2, rf G 174), (3, rf G 194), (4, i9 v4)] [i9 r2] d3 _
  refine r_istore C [(5, i9 r2), (0, scf b), (1, rf G 0), (2, rf G 174), (3, rf G 194), (4, i9 v4)] dL_law__1946 (by decide) rfl ?_
  refine r_aload_n C 3 dL_law__1948 rfl rfl ?_
  refine r_aload_nC C 1 dL_law__1949 rfl rfl ?_
  refine r_iload C 5 dL_law__1950 rfl ?_
  refine r_iconst C dL_law__1952 ?_
  refine r_iadd C dL_law__1953 ?_
  refine r_scld C hSC dL_law__1954 (fun t4 => ?_)
  refine r_callVL C [i9 t4, rf G 174] dL_law__1955 (t_X12_many_174 C.h1 C.h2 t4 d3) mw_L_263 mv_X12_many la_174 ly_174 rfl (by decide) (show k + 1 + 0 ≤ 601024 by omega) (show n + 6 + 0 ≤ 7293034 by omega) rfl rfl (Nat.le_of_ble_eq_true rfl) (fun r5 d6 => ?_)
  show SS G X 8 (k + 1 + 0) (n + 6 + 0) 1958 [(5, i9 r2), (0, scf b), (1, rf G 0), (2, rf G 174), (3, rf G 194), (4, i9 v4)] [] d6 _
  refine r_aload_n C 3 dL_law__1958 rfl rfl ?_
  refine r_callVL C [rf G 174] dL_law__1959 (t_X12_thrown_174 C.h1 C.h2 d6) mw_L_175 mv_X12_thrown la_174 ly_174 rfl (by decide) (show k + 1 + 0 + 0 ≤ 601024 by omega) (show n + 6 + 0 + 0 ≤ 7293034 by omega) rfl rfl (Nat.le_of_ble_eq_true rfl) (fun r7 d8 => ?_)
  show SS G X 8 (k + 1 + 0 + 0) (n + 6 + 0 + 0) 1962 [(5, i9 r2), (0, scf b), (1, rf G 0), (2, rf G 174), (3, rf G 194), (4, i9 v4)] [i9 r7] d8 _
  refine r_iload C 0 dL_law__1962 rfl ?_
  refine r_icmp_eq C 1969 dL_law__1964 (by decide) (fun _ => ?_) (fun _ => ?_)
  · refine r_goto C 3533 dL_law__1969 (by decide) ?_
    refine r_iinc C 5 [(4, i9 (v4 + 7)), (5, i9 r2), (0, scf b), (1, rf G 0), (2, rf G 174), (3, rf G 194)] dL_law__3533 rfl (by decide) rfl ?_
    refine r_goto C 23 dL_law__3536 (by decide) ?_
    refine ss_wide (k' := k + 12) (n' := n + 80) (show k + 1 + 0 + 0 ≤ k + 12 by omega) (show n + 6 + 0 + 0 ≤ n + 80 by omega) ?_
    refine ss_ls [(0, scf b), (1, rf G 0), (2, rf G 174), (3, rf G 194), (4, i9 (v4 + 7))] [2, 3, 4, 5, 0] rfl ?_
    exact hkc (v4 + 7) d8
  · refine r_iconst C dL_law__1967 ?_
    exact ss_none
theorem dL_law__1972 : decode cL_law_ 1972 = .ok (.aload_n 1, 1) := by decide +kernel
theorem dL_law__1973 : decode cL_law_ 1973 = .ok (.invokevirtual 264, 3) := by decide +kernel
theorem dL_law__1976 : decode cL_law_ 1976 = .ok (.aload_n 2, 1) := by decide +kernel
theorem dL_law__1977 : decode cL_law_ 1977 = .ok (.invokevirtual 268, 3) := by decide +kernel
theorem dL_law__1980 : decode cL_law_ 1980 = .ok (.lcmp, 1) := by decide +kernel
theorem dL_law__1981 : decode cL_law_ 1981 = .ok (.ifCond .eq 1552, 3) := by decide +kernel
theorem dL_law__1984 : decode cL_law_ 1984 = .ok (.iconst 0, 1) := by decide +kernel
def m_L_case_25 (xs : Nat → Int) (L : Nat) (kc : Int → D9 → Option R9) (v4 : Int) (d : D9) : Option R9 := cz (m_X11_upper_0 d) (fun r1 d2 => cz (m_X12_upper_174 d2) (fun r3 d4 => if w64 r1 = w64 r3 then kc (v4 + 7) d4 else none))
set_option maxRecDepth 100000 in
theorem s_L_case_25 {G : G9} {X : X9} (C : CX G X cL_law_ 8 RL [] zL9) (hNc : NC9 (xS X)) {b L : Nat} {xs : Nat → Int} (hSC : SCX G X b L xs) {k n : Nat} (hk : k + 12 ≤ 601024) (hn : n + 80 ≤ 7293034) (kc : Int → D9 → Option R9) (hkc : ∀ (v4 : Int) (d : D9), SS G X 8 (k + 12) (n + 80) 23 [(0, scf b), (1, rf G 0), (2, rf G 174), (3, rf G 194), (4, i9 v4)] [] d (kc v4 d)) : ∀ (v4 : Int) (d : D9), SS G X 8 k n 1972 [(0, scf b), (1, rf G 0), (2, rf G 174), (3, rf G 194), (4, i9 v4)] [] d (m_L_case_25 xs L kc v4 d) := by
  intro v4 d
  unfold m_L_case_25
  refine r_aload_n C 1 dL_law__1972 rfl rfl ?_
  refine r_callVL C [rf G 0] dL_law__1973 (t_X11_upper_0 C.h1 C.h2 d) mw_L_264 mv_X11_upper la_0 ly_0 rfl (by decide) (show k + 0 ≤ 601024 by omega) (show n + 0 ≤ 7293034 by omega) rfl rfl (Nat.le_of_ble_eq_true rfl) (fun r1 d2 => ?_)
  show SS G X 8 (k + 0) (n + 0) 1976 [(0, scf b), (1, rf G 0), (2, rf G 174), (3, rf G 194), (4, i9 v4)] [l9 r1] d2 _
  refine r_aload_n C 2 dL_law__1976 rfl rfl ?_
  refine r_callVL C [rf G 174, l9 r1] dL_law__1977 (t_X12_upper_174 C.h1 C.h2 d2) mw_L_268 mv_X12_upper la_174 ly_174 rfl (by decide) (show k + 0 + 0 ≤ 601024 by omega) (show n + 0 + 0 ≤ 7293034 by omega) rfl rfl (Nat.le_of_ble_eq_true rfl) (fun r3 d4 => ?_)
  show SS G X 8 (k + 0 + 0) (n + 0 + 0) 1980 [(0, scf b), (1, rf G 0), (2, rf G 174), (3, rf G 194), (4, i9 v4)] [l9 r3, l9 r1] d4 _
  refine r_lcmp_eq C 3533 dL_law__1980 dL_law__1981 (by decide) (fun _ => ?_) (fun _ => ?_)
  · refine r_iinc C 4 [(4, i9 (v4 + 7)), (0, scf b), (1, rf G 0), (2, rf G 174), (3, rf G 194)] dL_law__3533 rfl (by decide) rfl ?_
    refine r_goto C 23 dL_law__3536 (by decide) ?_
    refine ss_wide (k' := k + 12) (n' := n + 80) (show k + 0 + 0 ≤ k + 12 by omega) (show n + 0 + 0 ≤ n + 80 by omega) ?_
    refine ss_ls [(0, scf b), (1, rf G 0), (2, rf G 174), (3, rf G 194), (4, i9 (v4 + 7))] [1, 2, 3, 4, 0] rfl ?_
    exact hkc (v4 + 7) d4
  · refine r_iconst C dL_law__1984 ?_
    exact ss_none
theorem dL_law__1986 : decode cL_law_ 1986 = .ok (.aload_n 1, 1) := by decide +kernel
theorem dL_law__1987 : decode cL_law_ 1987 = .ok (.invokevirtual 269, 3) := by decide +kernel
theorem dL_law__1990 : decode cL_law_ 1990 = .ok (.aload_n 2, 1) := by decide +kernel
theorem dL_law__1991 : decode cL_law_ 1991 = .ok (.invokevirtual 272, 3) := by decide +kernel
theorem dL_law__1994 : decode cL_law_ 1994 = .ok (.lcmp, 1) := by decide +kernel
theorem dL_law__1995 : decode cL_law_ 1995 = .ok (.ifCond .eq 1538, 3) := by decide +kernel
theorem dL_law__1998 : decode cL_law_ 1998 = .ok (.iconst 0, 1) := by decide +kernel
def m_L_case_26 (xs : Nat → Int) (L : Nat) (kc : Int → D9 → Option R9) (v4 : Int) (d : D9) : Option R9 := cz (m_X11_lower_0 d) (fun r1 d2 => cz (m_X12_lower_174 d2) (fun r3 d4 => if w64 r1 = w64 r3 then kc (v4 + 7) d4 else none))
set_option maxRecDepth 100000 in
theorem s_L_case_26 {G : G9} {X : X9} (C : CX G X cL_law_ 8 RL [] zL9) (hNc : NC9 (xS X)) {b L : Nat} {xs : Nat → Int} (hSC : SCX G X b L xs) {k n : Nat} (hk : k + 12 ≤ 601024) (hn : n + 80 ≤ 7293034) (kc : Int → D9 → Option R9) (hkc : ∀ (v4 : Int) (d : D9), SS G X 8 (k + 12) (n + 80) 23 [(0, scf b), (1, rf G 0), (2, rf G 174), (3, rf G 194), (4, i9 v4)] [] d (kc v4 d)) : ∀ (v4 : Int) (d : D9), SS G X 8 k n 1986 [(0, scf b), (1, rf G 0), (2, rf G 174), (3, rf G 194), (4, i9 v4)] [] d (m_L_case_26 xs L kc v4 d) := by
  intro v4 d
  unfold m_L_case_26
  refine r_aload_n C 1 dL_law__1986 rfl rfl ?_
  refine r_callVL C [rf G 0] dL_law__1987 (t_X11_lower_0 C.h1 C.h2 d) mw_L_269 mv_X11_lower la_0 ly_0 rfl (by decide) (show k + 0 ≤ 601024 by omega) (show n + 0 ≤ 7293034 by omega) rfl rfl (Nat.le_of_ble_eq_true rfl) (fun r1 d2 => ?_)
  show SS G X 8 (k + 0) (n + 0) 1990 [(0, scf b), (1, rf G 0), (2, rf G 174), (3, rf G 194), (4, i9 v4)] [l9 r1] d2 _
  refine r_aload_n C 2 dL_law__1990 rfl rfl ?_
  refine r_callVL C [rf G 174, l9 r1] dL_law__1991 (t_X12_lower_174 C.h1 C.h2 d2) mw_L_272 mv_X12_lower la_174 ly_174 rfl (by decide) (show k + 0 + 0 ≤ 601024 by omega) (show n + 0 + 0 ≤ 7293034 by omega) rfl rfl (Nat.le_of_ble_eq_true rfl) (fun r3 d4 => ?_)
  show SS G X 8 (k + 0 + 0) (n + 0 + 0) 1994 [(0, scf b), (1, rf G 0), (2, rf G 174), (3, rf G 194), (4, i9 v4)] [l9 r3, l9 r1] d4 _
  refine r_lcmp_eq C 3533 dL_law__1994 dL_law__1995 (by decide) (fun _ => ?_) (fun _ => ?_)
  · refine r_iinc C 4 [(4, i9 (v4 + 7)), (0, scf b), (1, rf G 0), (2, rf G 174), (3, rf G 194)] dL_law__3533 rfl (by decide) rfl ?_
    refine r_goto C 23 dL_law__3536 (by decide) ?_
    refine ss_wide (k' := k + 12) (n' := n + 80) (show k + 0 + 0 ≤ k + 12 by omega) (show n + 0 + 0 ≤ n + 80 by omega) ?_
    refine ss_ls [(0, scf b), (1, rf G 0), (2, rf G 174), (3, rf G 194), (4, i9 (v4 + 7))] [1, 2, 3, 4, 0] rfl ?_
    exact hkc (v4 + 7) d4
  · refine r_iconst C dL_law__1998 ?_
    exact ss_none
theorem dL_law__2000 : decode cL_law_ 2000 = .ok (.aload_n 1, 1) := by decide +kernel
theorem dL_law__2001 : decode cL_law_ 2001 = .ok (.aload_n 0, 1) := by decide +kernel
theorem dL_law__2002 : decode cL_law_ 2002 = .ok (.iload 4, 2) := by decide +kernel
theorem dL_law__2004 : decode cL_law_ 2004 = .ok (.iconst 1, 1) := by decide +kernel
theorem dL_law__2005 : decode cL_law_ 2005 = .ok (.iadd, 1) := by decide +kernel
theorem dL_law__2006 : decode cL_law_ 2006 = .ok (.iaload, 1) := by decide +kernel
theorem dL_law__2007 : decode cL_law_ 2007 = .ok (.aload_n 0, 1) := by decide +kernel
theorem dL_law__2008 : decode cL_law_ 2008 = .ok (.iload 4, 2) := by decide +kernel
theorem dL_law__2010 : decode cL_law_ 2010 = .ok (.iconst 2, 1) := by decide +kernel
theorem dL_law__2011 : decode cL_law_ 2011 = .ok (.iadd, 1) := by decide +kernel
theorem dL_law__2012 : decode cL_law_ 2012 = .ok (.iaload, 1) := by decide +kernel
theorem dL_law__2013 : decode cL_law_ 2013 = .ok (.aload_n 0, 1) := by decide +kernel
theorem dL_law__2014 : decode cL_law_ 2014 = .ok (.iload 4, 2) := by decide +kernel
theorem dL_law__2016 : decode cL_law_ 2016 = .ok (.iconst 3, 1) := by decide +kernel
theorem dL_law__2017 : decode cL_law_ 2017 = .ok (.iadd, 1) := by decide +kernel
theorem dL_law__2018 : decode cL_law_ 2018 = .ok (.iaload, 1) := by decide +kernel
theorem dL_law__2019 : decode cL_law_ 2019 = .ok (.aload_n 0, 1) := by decide +kernel
theorem dL_law__2020 : decode cL_law_ 2020 = .ok (.iload 4, 2) := by decide +kernel
theorem dL_law__2022 : decode cL_law_ 2022 = .ok (.iconst 4, 1) := by decide +kernel
theorem dL_law__2023 : decode cL_law_ 2023 = .ok (.iadd, 1) := by decide +kernel
theorem dL_law__2024 : decode cL_law_ 2024 = .ok (.iaload, 1) := by decide +kernel
theorem dL_law__2025 : decode cL_law_ 2025 = .ok (.aload_n 0, 1) := by decide +kernel
theorem dL_law__2026 : decode cL_law_ 2026 = .ok (.iload 4, 2) := by decide +kernel
theorem dL_law__2028 : decode cL_law_ 2028 = .ok (.iconst 5, 1) := by decide +kernel
theorem dL_law__2029 : decode cL_law_ 2029 = .ok (.iadd, 1) := by decide +kernel
theorem dL_law__2030 : decode cL_law_ 2030 = .ok (.iaload, 1) := by decide +kernel
theorem dL_law__2031 : decode cL_law_ 2031 = .ok (.aload_n 0, 1) := by decide +kernel
theorem dL_law__2032 : decode cL_law_ 2032 = .ok (.iload 4, 2) := by decide +kernel
theorem dL_law__2034 : decode cL_law_ 2034 = .ok (.bipush 6, 2) := by decide +kernel
theorem dL_law__2036 : decode cL_law_ 2036 = .ok (.iadd, 1) := by decide +kernel
theorem dL_law__2037 : decode cL_law_ 2037 = .ok (.iaload, 1) := by decide +kernel
theorem dL_law__2038 : decode cL_law_ 2038 = .ok (.aload_n 3, 1) := by decide +kernel
theorem dL_law__2039 : decode cL_law_ 2039 = .ok (.invokestatic 273, 3) := by decide +kernel
theorem dL_law__2042 : decode cL_law_ 2042 = .ok (.istore 5, 2) := by decide +kernel
theorem dL_law__2044 : decode cL_law_ 2044 = .ok (.aload_n 2, 1) := by decide +kernel
theorem dL_law__2045 : decode cL_law_ 2045 = .ok (.aload_n 0, 1) := by decide +kernel
theorem dL_law__2046 : decode cL_law_ 2046 = .ok (.iload 4, 2) := by decide +kernel
theorem dL_law__2048 : decode cL_law_ 2048 = .ok (.iconst 1, 1) := by decide +kernel
theorem dL_law__2049 : decode cL_law_ 2049 = .ok (.iadd, 1) := by decide +kernel
theorem dL_law__2050 : decode cL_law_ 2050 = .ok (.iaload, 1) := by decide +kernel
theorem dL_law__2051 : decode cL_law_ 2051 = .ok (.aload_n 0, 1) := by decide +kernel
theorem dL_law__2052 : decode cL_law_ 2052 = .ok (.iload 4, 2) := by decide +kernel
theorem dL_law__2054 : decode cL_law_ 2054 = .ok (.iconst 2, 1) := by decide +kernel
theorem dL_law__2055 : decode cL_law_ 2055 = .ok (.iadd, 1) := by decide +kernel
theorem dL_law__2056 : decode cL_law_ 2056 = .ok (.iaload, 1) := by decide +kernel
theorem dL_law__2057 : decode cL_law_ 2057 = .ok (.aload_n 0, 1) := by decide +kernel
theorem dL_law__2058 : decode cL_law_ 2058 = .ok (.iload 4, 2) := by decide +kernel
theorem dL_law__2060 : decode cL_law_ 2060 = .ok (.iconst 3, 1) := by decide +kernel
theorem dL_law__2061 : decode cL_law_ 2061 = .ok (.iadd, 1) := by decide +kernel
theorem dL_law__2062 : decode cL_law_ 2062 = .ok (.iaload, 1) := by decide +kernel
theorem dL_law__2063 : decode cL_law_ 2063 = .ok (.aload_n 0, 1) := by decide +kernel
theorem dL_law__2064 : decode cL_law_ 2064 = .ok (.iload 4, 2) := by decide +kernel
theorem dL_law__2066 : decode cL_law_ 2066 = .ok (.iconst 4, 1) := by decide +kernel
theorem dL_law__2067 : decode cL_law_ 2067 = .ok (.iadd, 1) := by decide +kernel
theorem dL_law__2068 : decode cL_law_ 2068 = .ok (.iaload, 1) := by decide +kernel
theorem dL_law__2069 : decode cL_law_ 2069 = .ok (.aload_n 0, 1) := by decide +kernel
theorem dL_law__2070 : decode cL_law_ 2070 = .ok (.iload 4, 2) := by decide +kernel
theorem dL_law__2072 : decode cL_law_ 2072 = .ok (.iconst 5, 1) := by decide +kernel
theorem dL_law__2073 : decode cL_law_ 2073 = .ok (.iadd, 1) := by decide +kernel
theorem dL_law__2074 : decode cL_law_ 2074 = .ok (.iaload, 1) := by decide +kernel
theorem dL_law__2075 : decode cL_law_ 2075 = .ok (.aload_n 0, 1) := by decide +kernel
theorem dL_law__2076 : decode cL_law_ 2076 = .ok (.iload 4, 2) := by decide +kernel
theorem dL_law__2078 : decode cL_law_ 2078 = .ok (.bipush 6, 2) := by decide +kernel
theorem dL_law__2080 : decode cL_law_ 2080 = .ok (.iadd, 1) := by decide +kernel
theorem dL_law__2081 : decode cL_law_ 2081 = .ok (.iaload, 1) := by decide +kernel
theorem dL_law__2082 : decode cL_law_ 2082 = .ok (.invokevirtual 275, 3) := by decide +kernel
theorem dL_law__2085 : decode cL_law_ 2085 = .ok (.istore 6, 2) := by decide +kernel
theorem dL_law__2087 : decode cL_law_ 2087 = .ok (.aload_n 2, 1) := by decide +kernel
theorem dL_law__2088 : decode cL_law_ 2088 = .ok (.invokevirtual 175, 3) := by decide +kernel
theorem dL_law__2091 : decode cL_law_ 2091 = .ok (.iload 5, 2) := by decide +kernel
theorem dL_law__2093 : decode cL_law_ 2093 = .ok (.if_icmp .eq 5, 3) := by decide +kernel
theorem dL_law__2096 : decode cL_law_ 2096 = .ok (.iconst 0, 1) := by decide +kernel
theorem dL_law__2098 : decode cL_law_ 2098 = .ok (.iload 5, 2) := by decide +kernel
theorem dL_law__2100 : decode cL_law_ 2100 = .ok (.ifCond .ne 15, 3) := by decide +kernel
theorem dL_law__2103 : decode cL_law_ 2103 = .ok (.aload_n 3, 1) := by decide +kernel
theorem dL_law__2104 : decode cL_law_ 2104 = .ok (.iconst 0, 1) := by decide +kernel
theorem dL_law__2105 : decode cL_law_ 2105 = .ok (.laload, 1) := by decide +kernel
theorem dL_law__2106 : decode cL_law_ 2106 = .ok (.iload 6, 2) := by decide +kernel
theorem dL_law__2108 : decode cL_law_ 2108 = .ok (.i2l, 1) := by decide +kernel
theorem dL_law__2109 : decode cL_law_ 2109 = .ok (.lcmp, 1) := by decide +kernel
theorem dL_law__2110 : decode cL_law_ 2110 = .ok (.ifCond .eq 5, 3) := by decide +kernel
theorem dL_law__2113 : decode cL_law_ 2113 = .ok (.iconst 0, 1) := by decide +kernel
theorem dL_law__2115 : decode cL_law_ 2115 = .ok (.goto 1418, 3) := by decide +kernel
def m_L_case_27 (xs : Nat → Int) (L : Nat) (kc : Int → D9 → Option R9) (v4 : Int) (d : D9) : Option R9 := scr xs L (v4 + 1) (fun t1 => scr xs L (v4 + 2) (fun t2 => scr xs L (v4 + 3) (fun t3 => scr xs L (v4 + 4) (fun t4 => scr xs L (v4 + 5) (fun t5 => scr xs L (v4 + 6) (fun t6 => cz (m_L_told t1 t2 t3 t4 t5 t6 d) (fun r7 d8 => scr xs L (v4 + 1) (fun t9 => scr xs L (v4 + 2) (fun t10 => scr xs L (v4 + 3) (fun t11 => scr xs L (v4 + 4) (fun t12 => scr xs L (v4 + 5) (fun t13 => scr xs L (v4 + 6) (fun t14 => cz (m_X12_told_174 t9 t10 t11 t12 t13 t14 d8) (fun r15 d16 => cz (m_X12_thrown_174 d16) (fun r17 d18 => if w32 r17 = w32 r7 then if w32 r7 ≠ 0 then kc (v4 + 7) d18 else ld d18 194 1 0 (fun t19 => if w64 t19 = w64 (w32 r15) then kc (v4 + 7) d18 else none) else none)))))))))))))))
set_option maxRecDepth 100000 in
theorem s_L_case_27 {G : G9} {X : X9} (C : CX G X cL_law_ 8 RL [] zL9) (hNc : NC9 (xS X)) {b L : Nat} {xs : Nat → Int} (hSC : SCX G X b L xs) {k n : Nat} (hk : k + 12 ≤ 601024) (hn : n + 80 ≤ 7293034) (kc : Int → D9 → Option R9) (hkc : ∀ (v4 : Int) (d : D9), SS G X 8 (k + 12) (n + 80) 23 [(0, scf b), (1, rf G 0), (2, rf G 174), (3, rf G 194), (4, i9 v4)] [] d (kc v4 d)) : ∀ (v4 : Int) (d : D9), SS G X 8 k n 2000 [(0, scf b), (1, rf G 0), (2, rf G 174), (3, rf G 194), (4, i9 v4)] [] d (m_L_case_27 xs L kc v4 d) := by
  intro v4 d
  unfold m_L_case_27
  refine r_aload_n C 1 dL_law__2000 rfl rfl ?_
  refine r_aload_nC C 0 dL_law__2001 rfl rfl ?_
  refine r_iload C 4 dL_law__2002 rfl ?_
  refine r_iconst C dL_law__2004 ?_
  refine r_iadd C dL_law__2005 ?_
  refine r_scld C hSC dL_law__2006 (fun t1 => ?_)
  refine r_aload_nC C 0 dL_law__2007 rfl rfl ?_
  refine r_iload C 4 dL_law__2008 rfl ?_
  refine r_iconst C dL_law__2010 ?_
  refine r_iadd C dL_law__2011 ?_
  refine r_scld C hSC dL_law__2012 (fun t2 => ?_)
  refine r_aload_nC C 0 dL_law__2013 rfl rfl ?_
  refine r_iload C 4 dL_law__2014 rfl ?_
  refine r_iconst C dL_law__2016 ?_
  refine r_iadd C dL_law__2017 ?_
  refine r_scld C hSC dL_law__2018 (fun t3 => ?_)
  refine r_aload_nC C 0 dL_law__2019 rfl rfl ?_
  refine r_iload C 4 dL_law__2020 rfl ?_
  refine r_iconst C dL_law__2022 ?_
  refine r_iadd C dL_law__2023 ?_
  refine r_scld C hSC dL_law__2024 (fun t4 => ?_)
  refine r_aload_nC C 0 dL_law__2025 rfl rfl ?_
  refine r_iload C 4 dL_law__2026 rfl ?_
  refine r_iconst C dL_law__2028 ?_
  refine r_iadd C dL_law__2029 ?_
  refine r_scld C hSC dL_law__2030 (fun t5 => ?_)
  refine r_aload_nC C 0 dL_law__2031 rfl rfl ?_
  refine r_iload C 4 dL_law__2032 rfl ?_
  refine r_bipush C dL_law__2034 rfl ?_
  refine r_iadd C dL_law__2036 ?_
  refine r_scld C hSC dL_law__2037 (fun t6 => ?_)
  refine r_aload_n C 3 dL_law__2038 rfl rfl ?_
  refine r_callHL C hNc [rf G 194, i9 t6, i9 t5, i9 t4, i9 t3, i9 t2, i9 t1, rf G 0] dL_law__2039 (t_L_told C.h1 C.h2 t1 t2 t3 t4 t5 t6 d) mwh_L_273 (by decide) (show k + 6 ≤ 601024 by omega) (show n + 36 ≤ 7293034 by omega) rfl rfl (Nat.le_of_ble_eq_true rfl) (fun r7 d8 => ?_)
  show SS G X 8 (k + 6) (n + 36) 2042 [(0, scf b), (1, rf G 0), (2, rf G 174), (3, rf G 194), (4, i9 v4)] [i9 r7] d8 _
  refine r_istore C [(5, i9 r7), (0, scf b), (1, rf G 0), (2, rf G 174), (3, rf G 194), (4, i9 v4)] dL_law__2042 (by decide) rfl ?_
  refine r_aload_n C 3 dL_law__2044 rfl rfl ?_
  refine r_aload_nC C 1 dL_law__2045 rfl rfl ?_
  refine r_iload C 5 dL_law__2046 rfl ?_
  refine r_iconst C dL_law__2048 ?_
  refine r_iadd C dL_law__2049 ?_
  refine r_scld C hSC dL_law__2050 (fun t9 => ?_)
  refine r_aload_nC C 1 dL_law__2051 rfl rfl ?_
  refine r_iload C 5 dL_law__2052 rfl ?_
  refine r_iconst C dL_law__2054 ?_
  refine r_iadd C dL_law__2055 ?_
  refine r_scld C hSC dL_law__2056 (fun t10 => ?_)
  refine r_aload_nC C 1 dL_law__2057 rfl rfl ?_
  refine r_iload C 5 dL_law__2058 rfl ?_
  refine r_iconst C dL_law__2060 ?_
  refine r_iadd C dL_law__2061 ?_
  refine r_scld C hSC dL_law__2062 (fun t11 => ?_)
  refine r_aload_nC C 1 dL_law__2063 rfl rfl ?_
  refine r_iload C 5 dL_law__2064 rfl ?_
  refine r_iconst C dL_law__2066 ?_
  refine r_iadd C dL_law__2067 ?_
  refine r_scld C hSC dL_law__2068 (fun t12 => ?_)
  refine r_aload_nC C 1 dL_law__2069 rfl rfl ?_
  refine r_iload C 5 dL_law__2070 rfl ?_
  refine r_iconst C dL_law__2072 ?_
  refine r_iadd C dL_law__2073 ?_
  refine r_scld C hSC dL_law__2074 (fun t13 => ?_)
  refine r_aload_nC C 1 dL_law__2075 rfl rfl ?_
  refine r_iload C 5 dL_law__2076 rfl ?_
  refine r_bipush C dL_law__2078 rfl ?_
  refine r_iadd C dL_law__2080 ?_
  refine r_scld C hSC dL_law__2081 (fun t14 => ?_)
  refine r_callVL C [i9 t14, i9 t13, i9 t12, i9 t11, i9 t10, i9 t9, rf G 174] dL_law__2082 (t_X12_told_174 C.h1 C.h2 t9 t10 t11 t12 t13 t14 d8) mw_L_275 mv_X12_told la_174 ly_174 rfl (by decide) (show k + 6 + 0 ≤ 601024 by omega) (show n + 36 + 0 ≤ 7293034 by omega) rfl rfl (Nat.le_of_ble_eq_true rfl) (fun r15 d16 => ?_)
  show SS G X 8 (k + 6 + 0) (n + 36 + 0) 2085 [(5, i9 r7), (0, scf b), (1, rf G 0), (2, rf G 174), (3, rf G 194), (4, i9 v4)] [i9 r15] d16 _
  refine r_istore C [(6, i9 r15), (5, i9 r7), (0, scf b), (1, rf G 0), (2, rf G 174), (3, rf G 194), (4, i9 v4)] dL_law__2085 (by decide) rfl ?_
  refine r_aload_n C 4 dL_law__2087 rfl rfl ?_
  refine r_callVL C [rf G 174] dL_law__2088 (t_X12_thrown_174 C.h1 C.h2 d16) mw_L_175 mv_X12_thrown la_174 ly_174 rfl (by decide) (show k + 6 + 0 + 0 ≤ 601024 by omega) (show n + 36 + 0 + 0 ≤ 7293034 by omega) rfl rfl (Nat.le_of_ble_eq_true rfl) (fun r17 d18 => ?_)
  show SS G X 8 (k + 6 + 0 + 0) (n + 36 + 0 + 0) 2091 [(6, i9 r15), (5, i9 r7), (0, scf b), (1, rf G 0), (2, rf G 174), (3, rf G 194), (4, i9 v4)] [i9 r17] d18 _
  refine r_iload C 1 dL_law__2091 rfl ?_
  refine r_icmp_eq C 2098 dL_law__2093 (by decide) (fun _ => ?_) (fun _ => ?_)
  · refine r_iload C 1 dL_law__2098 rfl ?_
    refine r_if_ne C (b := 0) 2115 dL_law__2100 (by decide) (fun _ => ?_) (fun _ => ?_)
    · refine r_goto C 3533 dL_law__2115 (by decide) ?_
      refine r_iinc C 6 [(4, i9 (v4 + 7)), (6, i9 r15), (5, i9 r7), (0, scf b), (1, rf G 0), (2, rf G 174), (3, rf G 194)] dL_law__3533 rfl (by decide) rfl ?_
      refine r_goto C 23 dL_law__3536 (by decide) ?_
      refine ss_wide (k' := k + 12) (n' := n + 80) (show k + 6 + 0 + 0 ≤ k + 12 by omega) (show n + 36 + 0 + 0 ≤ n + 80 by omega) ?_
      refine ss_ls [(0, scf b), (1, rf G 0), (2, rf G 174), (3, rf G 194), (4, i9 (v4 + 7))] [3, 4, 5, 6, 0] rfl ?_
      exact hkc (v4 + 7) d18
    · refine r_aload_n C 5 dL_law__2103 rfl rfl ?_
      refine r_iconst C dL_law__2104 ?_
      refine r_lald C dL_law__2105 la_194 ly_194 (fun t19 => ?_)
      refine r_iload C 0 dL_law__2106 rfl ?_
      refine r_i2l C dL_law__2108 ?_
      refine r_lcmp_eq C 2115 dL_law__2109 dL_law__2110 (by decide) (fun _ => ?_) (fun _ => ?_)
      · refine r_goto C 3533 dL_law__2115 (by decide) ?_
        refine r_iinc C 6 [(4, i9 (v4 + 7)), (6, i9 r15), (5, i9 r7), (0, scf b), (1, rf G 0), (2, rf G 174), (3, rf G 194)] dL_law__3533 rfl (by decide) rfl ?_
        refine r_goto C 23 dL_law__3536 (by decide) ?_
        refine ss_wide (k' := k + 12) (n' := n + 80) (show k + 6 + 0 + 0 ≤ k + 12 by omega) (show n + 36 + 0 + 0 ≤ n + 80 by omega) ?_
        refine ss_ls [(0, scf b), (1, rf G 0), (2, rf G 174), (3, rf G 194), (4, i9 (v4 + 7))] [3, 4, 5, 6, 0] rfl ?_
        exact hkc (v4 + 7) d18
      · refine r_iconst C dL_law__2113 ?_
        exact ss_none
  · refine r_iconst C dL_law__2096 ?_
    exact ss_none
theorem dL_law__2118 : decode cL_law_ 2118 = .ok (.aload_n 1, 1) := by decide +kernel
theorem dL_law__2119 : decode cL_law_ 2119 = .ok (.aload_n 0, 1) := by decide +kernel
theorem dL_law__2120 : decode cL_law_ 2120 = .ok (.iload 4, 2) := by decide +kernel
theorem dL_law__2122 : decode cL_law_ 2122 = .ok (.iconst 1, 1) := by decide +kernel
theorem dL_law__2123 : decode cL_law_ 2123 = .ok (.iadd, 1) := by decide +kernel
theorem dL_law__2124 : decode cL_law_ 2124 = .ok (.iaload, 1) := by decide +kernel
theorem dL_law__2125 : decode cL_law_ 2125 = .ok (.aload_n 0, 1) := by decide +kernel
theorem dL_law__2126 : decode cL_law_ 2126 = .ok (.iload 4, 2) := by decide +kernel
theorem dL_law__2128 : decode cL_law_ 2128 = .ok (.iconst 2, 1) := by decide +kernel
theorem dL_law__2129 : decode cL_law_ 2129 = .ok (.iadd, 1) := by decide +kernel
theorem dL_law__2130 : decode cL_law_ 2130 = .ok (.iaload, 1) := by decide +kernel
theorem dL_law__2131 : decode cL_law_ 2131 = .ok (.aload_n 3, 1) := by decide +kernel
theorem dL_law__2132 : decode cL_law_ 2132 = .ok (.invokestatic 276, 3) := by decide +kernel
theorem dL_law__2135 : decode cL_law_ 2135 = .ok (.istore 5, 2) := by decide +kernel
theorem dL_law__2137 : decode cL_law_ 2137 = .ok (.aload_n 2, 1) := by decide +kernel
theorem dL_law__2138 : decode cL_law_ 2138 = .ok (.aload_n 0, 1) := by decide +kernel
theorem dL_law__2139 : decode cL_law_ 2139 = .ok (.iload 4, 2) := by decide +kernel
theorem dL_law__2141 : decode cL_law_ 2141 = .ok (.iconst 1, 1) := by decide +kernel
theorem dL_law__2142 : decode cL_law_ 2142 = .ok (.iadd, 1) := by decide +kernel
theorem dL_law__2143 : decode cL_law_ 2143 = .ok (.iaload, 1) := by decide +kernel
theorem dL_law__2144 : decode cL_law_ 2144 = .ok (.aload_n 0, 1) := by decide +kernel
theorem dL_law__2145 : decode cL_law_ 2145 = .ok (.iload 4, 2) := by decide +kernel
theorem dL_law__2147 : decode cL_law_ 2147 = .ok (.iconst 2, 1) := by decide +kernel
theorem dL_law__2148 : decode cL_law_ 2148 = .ok (.iadd, 1) := by decide +kernel
theorem dL_law__2149 : decode cL_law_ 2149 = .ok (.iaload, 1) := by decide +kernel
theorem dL_law__2150 : decode cL_law_ 2150 = .ok (.invokevirtual 278, 3) := by decide +kernel
theorem dL_law__2153 : decode cL_law_ 2153 = .ok (.istore 6, 2) := by decide +kernel
theorem dL_law__2155 : decode cL_law_ 2155 = .ok (.aload_n 2, 1) := by decide +kernel
theorem dL_law__2156 : decode cL_law_ 2156 = .ok (.invokevirtual 175, 3) := by decide +kernel
theorem dL_law__2159 : decode cL_law_ 2159 = .ok (.iload 5, 2) := by decide +kernel
theorem dL_law__2161 : decode cL_law_ 2161 = .ok (.if_icmp .eq 5, 3) := by decide +kernel
theorem dL_law__2164 : decode cL_law_ 2164 = .ok (.iconst 0, 1) := by decide +kernel
theorem dL_law__2166 : decode cL_law_ 2166 = .ok (.iload 5, 2) := by decide +kernel
theorem dL_law__2168 : decode cL_law_ 2168 = .ok (.ifCond .ne 15, 3) := by decide +kernel
theorem dL_law__2171 : decode cL_law_ 2171 = .ok (.aload_n 3, 1) := by decide +kernel
theorem dL_law__2172 : decode cL_law_ 2172 = .ok (.iconst 0, 1) := by decide +kernel
theorem dL_law__2173 : decode cL_law_ 2173 = .ok (.laload, 1) := by decide +kernel
theorem dL_law__2174 : decode cL_law_ 2174 = .ok (.iload 6, 2) := by decide +kernel
theorem dL_law__2176 : decode cL_law_ 2176 = .ok (.i2l, 1) := by decide +kernel
theorem dL_law__2177 : decode cL_law_ 2177 = .ok (.lcmp, 1) := by decide +kernel
theorem dL_law__2178 : decode cL_law_ 2178 = .ok (.ifCond .eq 5, 3) := by decide +kernel
theorem dL_law__2181 : decode cL_law_ 2181 = .ok (.iconst 0, 1) := by decide +kernel
theorem dL_law__2183 : decode cL_law_ 2183 = .ok (.goto 1350, 3) := by decide +kernel
def m_L_case_28 (xs : Nat → Int) (L : Nat) (kc : Int → D9 → Option R9) (v4 : Int) (d : D9) : Option R9 := scr xs L (v4 + 1) (fun t1 => scr xs L (v4 + 2) (fun t2 => cz (m_L_like t1 t2 d) (fun r3 d4 => scr xs L (v4 + 1) (fun t5 => scr xs L (v4 + 2) (fun t6 => cz (m_X12_like_174 t5 t6 d4) (fun r7 d8 => cz (m_X12_thrown_174 d8) (fun r9 d10 => if w32 r9 = w32 r3 then if w32 r3 ≠ 0 then kc (v4 + 7) d10 else ld d10 194 1 0 (fun t11 => if w64 t11 = w64 (w32 r7) then kc (v4 + 7) d10 else none) else none)))))))
set_option maxRecDepth 100000 in
theorem s_L_case_28 {G : G9} {X : X9} (C : CX G X cL_law_ 8 RL [] zL9) (hNc : NC9 (xS X)) {b L : Nat} {xs : Nat → Int} (hSC : SCX G X b L xs) {k n : Nat} (hk : k + 12 ≤ 601024) (hn : n + 80 ≤ 7293034) (kc : Int → D9 → Option R9) (hkc : ∀ (v4 : Int) (d : D9), SS G X 8 (k + 12) (n + 80) 23 [(0, scf b), (1, rf G 0), (2, rf G 174), (3, rf G 194), (4, i9 v4)] [] d (kc v4 d)) : ∀ (v4 : Int) (d : D9), SS G X 8 k n 2118 [(0, scf b), (1, rf G 0), (2, rf G 174), (3, rf G 194), (4, i9 v4)] [] d (m_L_case_28 xs L kc v4 d) := by
  intro v4 d
  unfold m_L_case_28
  refine r_aload_n C 1 dL_law__2118 rfl rfl ?_
  refine r_aload_nC C 0 dL_law__2119 rfl rfl ?_
  refine r_iload C 4 dL_law__2120 rfl ?_
  refine r_iconst C dL_law__2122 ?_
  refine r_iadd C dL_law__2123 ?_
  refine r_scld C hSC dL_law__2124 (fun t1 => ?_)
  refine r_aload_nC C 0 dL_law__2125 rfl rfl ?_
  refine r_iload C 4 dL_law__2126 rfl ?_
  refine r_iconst C dL_law__2128 ?_
  refine r_iadd C dL_law__2129 ?_
  refine r_scld C hSC dL_law__2130 (fun t2 => ?_)
  refine r_aload_n C 3 dL_law__2131 rfl rfl ?_
  refine r_callHL C hNc [rf G 194, i9 t2, i9 t1, rf G 0] dL_law__2132 (t_L_like C.h1 C.h2 t1 t2 d) mwh_L_276 (by decide) (show k + 3 ≤ 601024 by omega) (show n + 18 ≤ 7293034 by omega) rfl rfl (Nat.le_of_ble_eq_true rfl) (fun r3 d4 => ?_)
  show SS G X 8 (k + 3) (n + 18) 2135 [(0, scf b), (1, rf G 0), (2, rf G 174), (3, rf G 194), (4, i9 v4)] [i9 r3] d4 _
  refine r_istore C [(5, i9 r3), (0, scf b), (1, rf G 0), (2, rf G 174), (3, rf G 194), (4, i9 v4)] dL_law__2135 (by decide) rfl ?_
  refine r_aload_n C 3 dL_law__2137 rfl rfl ?_
  refine r_aload_nC C 1 dL_law__2138 rfl rfl ?_
  refine r_iload C 5 dL_law__2139 rfl ?_
  refine r_iconst C dL_law__2141 ?_
  refine r_iadd C dL_law__2142 ?_
  refine r_scld C hSC dL_law__2143 (fun t5 => ?_)
  refine r_aload_nC C 1 dL_law__2144 rfl rfl ?_
  refine r_iload C 5 dL_law__2145 rfl ?_
  refine r_iconst C dL_law__2147 ?_
  refine r_iadd C dL_law__2148 ?_
  refine r_scld C hSC dL_law__2149 (fun t6 => ?_)
  refine r_callVL C [i9 t6, i9 t5, rf G 174] dL_law__2150 (t_X12_like_174 C.h1 C.h2 t5 t6 d4) mw_L_278 mv_X12_like la_174 ly_174 rfl (by decide) (show k + 3 + 0 ≤ 601024 by omega) (show n + 18 + 0 ≤ 7293034 by omega) rfl rfl (Nat.le_of_ble_eq_true rfl) (fun r7 d8 => ?_)
  show SS G X 8 (k + 3 + 0) (n + 18 + 0) 2153 [(5, i9 r3), (0, scf b), (1, rf G 0), (2, rf G 174), (3, rf G 194), (4, i9 v4)] [i9 r7] d8 _
  refine r_istore C [(6, i9 r7), (5, i9 r3), (0, scf b), (1, rf G 0), (2, rf G 174), (3, rf G 194), (4, i9 v4)] dL_law__2153 (by decide) rfl ?_
  refine r_aload_n C 4 dL_law__2155 rfl rfl ?_
  refine r_callVL C [rf G 174] dL_law__2156 (t_X12_thrown_174 C.h1 C.h2 d8) mw_L_175 mv_X12_thrown la_174 ly_174 rfl (by decide) (show k + 3 + 0 + 0 ≤ 601024 by omega) (show n + 18 + 0 + 0 ≤ 7293034 by omega) rfl rfl (Nat.le_of_ble_eq_true rfl) (fun r9 d10 => ?_)
  show SS G X 8 (k + 3 + 0 + 0) (n + 18 + 0 + 0) 2159 [(6, i9 r7), (5, i9 r3), (0, scf b), (1, rf G 0), (2, rf G 174), (3, rf G 194), (4, i9 v4)] [i9 r9] d10 _
  refine r_iload C 1 dL_law__2159 rfl ?_
  refine r_icmp_eq C 2166 dL_law__2161 (by decide) (fun _ => ?_) (fun _ => ?_)
  · refine r_iload C 1 dL_law__2166 rfl ?_
    refine r_if_ne C (b := 0) 2183 dL_law__2168 (by decide) (fun _ => ?_) (fun _ => ?_)
    · refine r_goto C 3533 dL_law__2183 (by decide) ?_
      refine r_iinc C 6 [(4, i9 (v4 + 7)), (6, i9 r7), (5, i9 r3), (0, scf b), (1, rf G 0), (2, rf G 174), (3, rf G 194)] dL_law__3533 rfl (by decide) rfl ?_
      refine r_goto C 23 dL_law__3536 (by decide) ?_
      refine ss_wide (k' := k + 12) (n' := n + 80) (show k + 3 + 0 + 0 ≤ k + 12 by omega) (show n + 18 + 0 + 0 ≤ n + 80 by omega) ?_
      refine ss_ls [(0, scf b), (1, rf G 0), (2, rf G 174), (3, rf G 194), (4, i9 (v4 + 7))] [3, 4, 5, 6, 0] rfl ?_
      exact hkc (v4 + 7) d10
    · refine r_aload_n C 5 dL_law__2171 rfl rfl ?_
      refine r_iconst C dL_law__2172 ?_
      refine r_lald C dL_law__2173 la_194 ly_194 (fun t11 => ?_)
      refine r_iload C 0 dL_law__2174 rfl ?_
      refine r_i2l C dL_law__2176 ?_
      refine r_lcmp_eq C 2183 dL_law__2177 dL_law__2178 (by decide) (fun _ => ?_) (fun _ => ?_)
      · refine r_goto C 3533 dL_law__2183 (by decide) ?_
        refine r_iinc C 6 [(4, i9 (v4 + 7)), (6, i9 r7), (5, i9 r3), (0, scf b), (1, rf G 0), (2, rf G 174), (3, rf G 194)] dL_law__3533 rfl (by decide) rfl ?_
        refine r_goto C 23 dL_law__3536 (by decide) ?_
        refine ss_wide (k' := k + 12) (n' := n + 80) (show k + 3 + 0 + 0 ≤ k + 12 by omega) (show n + 18 + 0 + 0 ≤ n + 80 by omega) ?_
        refine ss_ls [(0, scf b), (1, rf G 0), (2, rf G 174), (3, rf G 194), (4, i9 (v4 + 7))] [3, 4, 5, 6, 0] rfl ?_
        exact hkc (v4 + 7) d10
      · refine r_iconst C dL_law__2181 ?_
        exact ss_none
  · refine r_iconst C dL_law__2164 ?_
    exact ss_none
