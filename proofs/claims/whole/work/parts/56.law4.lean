
theorem d_LAW_1743 : decode code 1743 = .ok (.aload_n 1, 1) := by decide +kernel
theorem d_LAW_1744 : decode code 1744 = .ok (.aload_n 0, 1) := by decide +kernel
theorem d_LAW_1745 : decode code 1745 = .ok (.iload 4, 2) := by decide +kernel
theorem d_LAW_1747 : decode code 1747 = .ok (.iconst 1, 1) := by decide +kernel
theorem d_LAW_1748 : decode code 1748 = .ok (.iadd, 1) := by decide +kernel
theorem d_LAW_1749 : decode code 1749 = .ok (.iaload, 1) := by decide +kernel
theorem d_LAW_1750 : decode code 1750 = .ok (.aload_n 0, 1) := by decide +kernel
theorem d_LAW_1751 : decode code 1751 = .ok (.iload 4, 2) := by decide +kernel
theorem d_LAW_1753 : decode code 1753 = .ok (.iconst 2, 1) := by decide +kernel
theorem d_LAW_1754 : decode code 1754 = .ok (.iadd, 1) := by decide +kernel
theorem d_LAW_1755 : decode code 1755 = .ok (.iaload, 1) := by decide +kernel
theorem d_LAW_1756 : decode code 1756 = .ok (.aload_n 3, 1) := by decide +kernel
theorem d_LAW_1757 : decode code 1757 = .ok (.invokestatic 175, 3) := by decide +kernel
theorem d_LAW_1760 : decode code 1760 = .ok (.istore 5, 2) := by decide +kernel
theorem d_LAW_1762 : decode code 1762 = .ok (.aload_n 2, 1) := by decide +kernel
theorem d_LAW_1763 : decode code 1763 = .ok (.aload_n 0, 1) := by decide +kernel
theorem d_LAW_1764 : decode code 1764 = .ok (.iload 4, 2) := by decide +kernel
theorem d_LAW_1766 : decode code 1766 = .ok (.iconst 1, 1) := by decide +kernel
theorem d_LAW_1767 : decode code 1767 = .ok (.iadd, 1) := by decide +kernel
theorem d_LAW_1768 : decode code 1768 = .ok (.iaload, 1) := by decide +kernel
theorem d_LAW_1769 : decode code 1769 = .ok (.aload_n 0, 1) := by decide +kernel
theorem d_LAW_1770 : decode code 1770 = .ok (.iload 4, 2) := by decide +kernel
theorem d_LAW_1772 : decode code 1772 = .ok (.iconst 2, 1) := by decide +kernel
theorem d_LAW_1773 : decode code 1773 = .ok (.iadd, 1) := by decide +kernel
theorem d_LAW_1774 : decode code 1774 = .ok (.iaload, 1) := by decide +kernel
theorem d_LAW_1775 : decode code 1775 = .ok (.invokevirtual 177, 3) := by decide +kernel
theorem d_LAW_1778 : decode code 1778 = .ok (.istore 6, 2) := by decide +kernel
theorem d_LAW_1780 : decode code 1780 = .ok (.aload_n 2, 1) := by decide +kernel
theorem d_LAW_1781 : decode code 1781 = .ok (.invokevirtual 105, 3) := by decide +kernel
theorem d_LAW_1784 : decode code 1784 = .ok (.iload 5, 2) := by decide +kernel
theorem d_LAW_1786 : decode code 1786 = .ok (.if_icmp .eq 5, 3) := by decide +kernel
theorem d_LAW_1789 : decode code 1789 = .ok (.iconst 0, 1) := by decide +kernel
theorem d_LAW_1790 : decode code 1790 = .ok (.ireturn, 1) := by decide +kernel
theorem d_LAW_1791 : decode code 1791 = .ok (.iload 5, 2) := by decide +kernel
theorem d_LAW_1793 : decode code 1793 = .ok (.ifCond .ne 15, 3) := by decide +kernel
theorem d_LAW_1796 : decode code 1796 = .ok (.aload_n 3, 1) := by decide +kernel
theorem d_LAW_1797 : decode code 1797 = .ok (.iconst 0, 1) := by decide +kernel
theorem d_LAW_1798 : decode code 1798 = .ok (.laload, 1) := by decide +kernel
theorem d_LAW_1799 : decode code 1799 = .ok (.iload 6, 2) := by decide +kernel
theorem d_LAW_1801 : decode code 1801 = .ok (.i2l, 1) := by decide +kernel
theorem d_LAW_1802 : decode code 1802 = .ok (.lcmp, 1) := by decide +kernel
theorem d_LAW_1803 : decode code 1803 = .ok (.ifCond .eq 5, 3) := by decide +kernel
theorem d_LAW_1806 : decode code 1806 = .ok (.iconst 0, 1) := by decide +kernel
theorem d_LAW_1807 : decode code 1807 = .ok (.ireturn, 1) := by decide +kernel
theorem d_LAW_1808 : decode code 1808 = .ok (.goto 367, 3) := by decide +kernel
theorem d_LAW_1811 : decode code 1811 = .ok (.aload_n 1, 1) := by decide +kernel
theorem d_LAW_1812 : decode code 1812 = .ok (.aload_n 0, 1) := by decide +kernel
theorem d_LAW_1813 : decode code 1813 = .ok (.iload 4, 2) := by decide +kernel
theorem d_LAW_1815 : decode code 1815 = .ok (.iconst 1, 1) := by decide +kernel
theorem d_LAW_1816 : decode code 1816 = .ok (.iadd, 1) := by decide +kernel
theorem d_LAW_1817 : decode code 1817 = .ok (.iaload, 1) := by decide +kernel
theorem d_LAW_1818 : decode code 1818 = .ok (.aload_n 3, 1) := by decide +kernel
theorem d_LAW_1819 : decode code 1819 = .ok (.invokestatic 178, 3) := by decide +kernel
theorem d_LAW_1822 : decode code 1822 = .ok (.istore 5, 2) := by decide +kernel
theorem d_LAW_1824 : decode code 1824 = .ok (.aload_n 2, 1) := by decide +kernel
theorem d_LAW_1825 : decode code 1825 = .ok (.aload_n 0, 1) := by decide +kernel
theorem d_LAW_1826 : decode code 1826 = .ok (.iload 4, 2) := by decide +kernel
theorem d_LAW_1828 : decode code 1828 = .ok (.iconst 1, 1) := by decide +kernel
theorem d_LAW_1829 : decode code 1829 = .ok (.iadd, 1) := by decide +kernel
theorem d_LAW_1830 : decode code 1830 = .ok (.iaload, 1) := by decide +kernel
theorem d_LAW_1831 : decode code 1831 = .ok (.invokevirtual 180, 3) := by decide +kernel
theorem d_LAW_1834 : decode code 1834 = .ok (.istore 6, 2) := by decide +kernel
theorem d_LAW_1836 : decode code 1836 = .ok (.aload_n 2, 1) := by decide +kernel
theorem d_LAW_1837 : decode code 1837 = .ok (.invokevirtual 105, 3) := by decide +kernel
theorem d_LAW_1840 : decode code 1840 = .ok (.iload 5, 2) := by decide +kernel
theorem d_LAW_1842 : decode code 1842 = .ok (.if_icmp .eq 5, 3) := by decide +kernel
theorem d_LAW_1845 : decode code 1845 = .ok (.iconst 0, 1) := by decide +kernel
theorem d_LAW_1846 : decode code 1846 = .ok (.ireturn, 1) := by decide +kernel
theorem d_LAW_1847 : decode code 1847 = .ok (.iload 5, 2) := by decide +kernel
theorem d_LAW_1849 : decode code 1849 = .ok (.ifCond .ne 15, 3) := by decide +kernel
theorem d_LAW_1852 : decode code 1852 = .ok (.aload_n 3, 1) := by decide +kernel
theorem d_LAW_1853 : decode code 1853 = .ok (.iconst 0, 1) := by decide +kernel
theorem d_LAW_1854 : decode code 1854 = .ok (.laload, 1) := by decide +kernel
theorem d_LAW_1855 : decode code 1855 = .ok (.iload 6, 2) := by decide +kernel
theorem d_LAW_1857 : decode code 1857 = .ok (.i2l, 1) := by decide +kernel
theorem d_LAW_1858 : decode code 1858 = .ok (.lcmp, 1) := by decide +kernel
theorem d_LAW_1859 : decode code 1859 = .ok (.ifCond .eq 5, 3) := by decide +kernel
theorem d_LAW_1862 : decode code 1862 = .ok (.iconst 0, 1) := by decide +kernel
theorem d_LAW_1863 : decode code 1863 = .ok (.ireturn, 1) := by decide +kernel
theorem d_LAW_1864 : decode code 1864 = .ok (.goto 311, 3) := by decide +kernel
theorem d_LAW_1867 : decode code 1867 = .ok (.aload_n 1, 1) := by decide +kernel
theorem d_LAW_1868 : decode code 1868 = .ok (.invokevirtual 181, 3) := by decide +kernel
theorem d_LAW_1871 : decode code 1871 = .ok (.aload_n 2, 1) := by decide +kernel
theorem d_LAW_1872 : decode code 1872 = .ok (.invokevirtual 184, 3) := by decide +kernel
theorem d_LAW_1875 : decode code 1875 = .ok (.if_icmp .eq 300, 3) := by decide +kernel
theorem d_LAW_1878 : decode code 1878 = .ok (.iconst 0, 1) := by decide +kernel
theorem d_LAW_1879 : decode code 1879 = .ok (.ireturn, 1) := by decide +kernel
theorem d_LAW_1880 : decode code 1880 = .ok (.aload_n 1, 1) := by decide +kernel
theorem d_LAW_1881 : decode code 1881 = .ok (.aload_n 0, 1) := by decide +kernel
theorem d_LAW_1882 : decode code 1882 = .ok (.iload 4, 2) := by decide +kernel
theorem d_LAW_1884 : decode code 1884 = .ok (.iconst 1, 1) := by decide +kernel
theorem d_LAW_1885 : decode code 1885 = .ok (.iadd, 1) := by decide +kernel
theorem d_LAW_1886 : decode code 1886 = .ok (.iaload, 1) := by decide +kernel
theorem d_LAW_1887 : decode code 1887 = .ok (.aload_n 3, 1) := by decide +kernel
theorem d_LAW_1888 : decode code 1888 = .ok (.invokestatic 185, 3) := by decide +kernel
theorem d_LAW_1891 : decode code 1891 = .ok (.istore 5, 2) := by decide +kernel
theorem d_LAW_1893 : decode code 1893 = .ok (.aload_n 2, 1) := by decide +kernel
theorem d_LAW_1894 : decode code 1894 = .ok (.aload_n 0, 1) := by decide +kernel
theorem d_LAW_1895 : decode code 1895 = .ok (.iload 4, 2) := by decide +kernel
theorem d_LAW_1897 : decode code 1897 = .ok (.iconst 1, 1) := by decide +kernel
theorem d_LAW_1898 : decode code 1898 = .ok (.iadd, 1) := by decide +kernel
theorem d_LAW_1899 : decode code 1899 = .ok (.iaload, 1) := by decide +kernel
theorem d_LAW_1900 : decode code 1900 = .ok (.invokevirtual 187, 3) := by decide +kernel
theorem d_LAW_1903 : decode code 1903 = .ok (.lstore 6, 2) := by decide +kernel
theorem d_LAW_1905 : decode code 1905 = .ok (.aload_n 2, 1) := by decide +kernel
theorem d_LAW_1906 : decode code 1906 = .ok (.invokevirtual 105, 3) := by decide +kernel
theorem d_LAW_1909 : decode code 1909 = .ok (.iload 5, 2) := by decide +kernel
theorem d_LAW_1911 : decode code 1911 = .ok (.if_icmp .eq 5, 3) := by decide +kernel
theorem d_LAW_1914 : decode code 1914 = .ok (.iconst 0, 1) := by decide +kernel
theorem d_LAW_1915 : decode code 1915 = .ok (.ireturn, 1) := by decide +kernel
theorem d_LAW_1916 : decode code 1916 = .ok (.iload 5, 2) := by decide +kernel
theorem d_LAW_1918 : decode code 1918 = .ok (.ifCond .ne 14, 3) := by decide +kernel
theorem d_LAW_1921 : decode code 1921 = .ok (.aload_n 3, 1) := by decide +kernel
theorem d_LAW_1922 : decode code 1922 = .ok (.iconst 0, 1) := by decide +kernel
theorem d_LAW_1923 : decode code 1923 = .ok (.laload, 1) := by decide +kernel
theorem d_LAW_1924 : decode code 1924 = .ok (.lload 6, 2) := by decide +kernel
theorem d_LAW_1926 : decode code 1926 = .ok (.lcmp, 1) := by decide +kernel
theorem d_LAW_1927 : decode code 1927 = .ok (.ifCond .eq 5, 3) := by decide +kernel
theorem d_LAW_1930 : decode code 1930 = .ok (.iconst 0, 1) := by decide +kernel
theorem d_LAW_1931 : decode code 1931 = .ok (.ireturn, 1) := by decide +kernel
theorem d_LAW_1932 : decode code 1932 = .ok (.goto 243, 3) := by decide +kernel
theorem d_LAW_1935 : decode code 1935 = .ok (.aload_n 1, 1) := by decide +kernel
theorem d_LAW_1936 : decode code 1936 = .ok (.aload_n 0, 1) := by decide +kernel
theorem d_LAW_1937 : decode code 1937 = .ok (.iload 4, 2) := by decide +kernel
theorem d_LAW_1939 : decode code 1939 = .ok (.iconst 1, 1) := by decide +kernel
theorem d_LAW_1940 : decode code 1940 = .ok (.iadd, 1) := by decide +kernel
theorem d_LAW_1941 : decode code 1941 = .ok (.iaload, 1) := by decide +kernel
theorem d_LAW_1942 : decode code 1942 = .ok (.aload_n 0, 1) := by decide +kernel
theorem d_LAW_1943 : decode code 1943 = .ok (.iload 4, 2) := by decide +kernel
theorem d_LAW_1945 : decode code 1945 = .ok (.iconst 2, 1) := by decide +kernel
theorem d_LAW_1946 : decode code 1946 = .ok (.iadd, 1) := by decide +kernel
theorem d_LAW_1947 : decode code 1947 = .ok (.iaload, 1) := by decide +kernel
theorem d_LAW_1948 : decode code 1948 = .ok (.aload_n 3, 1) := by decide +kernel
theorem d_LAW_1949 : decode code 1949 = .ok (.invokestatic 188, 3) := by decide +kernel
theorem d_LAW_1952 : decode code 1952 = .ok (.istore 5, 2) := by decide +kernel
theorem d_LAW_1954 : decode code 1954 = .ok (.aload_n 2, 1) := by decide +kernel
theorem d_LAW_1955 : decode code 1955 = .ok (.aload_n 0, 1) := by decide +kernel
theorem d_LAW_1956 : decode code 1956 = .ok (.iload 4, 2) := by decide +kernel
theorem d_LAW_1958 : decode code 1958 = .ok (.iconst 1, 1) := by decide +kernel
theorem d_LAW_1959 : decode code 1959 = .ok (.iadd, 1) := by decide +kernel
theorem d_LAW_1960 : decode code 1960 = .ok (.iaload, 1) := by decide +kernel
theorem d_LAW_1961 : decode code 1961 = .ok (.aload_n 0, 1) := by decide +kernel
theorem d_LAW_1962 : decode code 1962 = .ok (.iload 4, 2) := by decide +kernel
theorem d_LAW_1964 : decode code 1964 = .ok (.iconst 2, 1) := by decide +kernel
theorem d_LAW_1965 : decode code 1965 = .ok (.iadd, 1) := by decide +kernel
theorem d_LAW_1966 : decode code 1966 = .ok (.iaload, 1) := by decide +kernel
theorem d_LAW_1967 : decode code 1967 = .ok (.invokevirtual 190, 3) := by decide +kernel
theorem d_LAW_1970 : decode code 1970 = .ok (.lstore 6, 2) := by decide +kernel
theorem d_LAW_1972 : decode code 1972 = .ok (.aload_n 2, 1) := by decide +kernel
theorem d_LAW_1973 : decode code 1973 = .ok (.invokevirtual 105, 3) := by decide +kernel
theorem d_LAW_1976 : decode code 1976 = .ok (.iload 5, 2) := by decide +kernel
theorem d_LAW_1978 : decode code 1978 = .ok (.if_icmp .eq 5, 3) := by decide +kernel
theorem d_LAW_1981 : decode code 1981 = .ok (.iconst 0, 1) := by decide +kernel
theorem d_LAW_1982 : decode code 1982 = .ok (.ireturn, 1) := by decide +kernel
theorem d_LAW_1983 : decode code 1983 = .ok (.iload 5, 2) := by decide +kernel
theorem d_LAW_1985 : decode code 1985 = .ok (.ifCond .ne 14, 3) := by decide +kernel
theorem d_LAW_1988 : decode code 1988 = .ok (.aload_n 3, 1) := by decide +kernel
theorem d_LAW_1989 : decode code 1989 = .ok (.iconst 0, 1) := by decide +kernel
theorem d_LAW_1990 : decode code 1990 = .ok (.laload, 1) := by decide +kernel
theorem d_LAW_1991 : decode code 1991 = .ok (.lload 6, 2) := by decide +kernel
theorem d_LAW_1993 : decode code 1993 = .ok (.lcmp, 1) := by decide +kernel
theorem d_LAW_1994 : decode code 1994 = .ok (.ifCond .eq 5, 3) := by decide +kernel
theorem d_LAW_1997 : decode code 1997 = .ok (.iconst 0, 1) := by decide +kernel
theorem d_LAW_1998 : decode code 1998 = .ok (.ireturn, 1) := by decide +kernel
theorem d_LAW_1999 : decode code 1999 = .ok (.goto 176, 3) := by decide +kernel
section
variable {p : Program} {l : Launch} {e : Env} {R : Room} {s : State} {m : MethodId} {args : Array Value} {below : List Frame} {meth : Method} {c : Code} {H : Heap} {locs : List Loc} {cells slots : Nat} {Q : State → Prop} {ls : Array Slot} {dC : Nat → ClassId} {dI : Nat → Nat → Nat} {hx hm o : Nat} {S : CS} {M : MS} {a : Int64} {b L : Nat} {xs : Nat → Int32}
set_option maxRecDepth 100000 in
set_option maxHeartbeats 1000000 in
theorem law_write (C0 : Cx p s m meth c args R code "ZoneFilesLaw" 8 (some .boolean) 12 518) (hLX : LX s b L xs) (hno : NT l) (nf : Nat) {i : Int32} (h1 : vp_in (i + 1) L) (h2 : vp_in (i + 2) L) (hLA : LA dC dI s hx hm o S M a H locs) (hl : lv_has ls 8 [(0, .ref b), (1, .ref hx), (2, .ref hm), (3, .ref o), (4, .int i)]) {S' : CS} {k : Int32} {ans : Int64} {kc ks : Nat} (hc : cq_write nf S (xs (i + 1).toNatClampNeg) (xs (i + 2).toNatClampNeg) = some (k, ans, S', kc, ks)) {r0 : Int32} {M' : MS} (hm1 : f_Mo_write nf (xs (i + 1).toNatClampNeg) (xs (i + 2).toNatClampNeg) M.1 M.2.1 M.2.2.1 M.2.2.2 = some (r0, M')) (ht : f_Mo_thrown nf M'.1 M'.2.1 M'.2.2.1 M'.2.2.2 = some k) (he : k = 0 → ans = r0.toInt64) (hcell : cells + kc ≤ R.cells) (hslot : slots + ks ≤ R.slots)
    (kk : ∀ (H1 : Heap) (locs1 : List Loc) (a1 : Int64) (ls1 : Array Slot), LA dC dI s hx hm o S' M' a1 H1 locs1 → lv_has ls1 8 [(0, .ref b), (1, .ref hx), (2, .ref hm), (3, .ref o), (4, .int i)] → W p l e R s m args below meth c H1 locs1 (cells + kc) (slots + ks) Q (F0 m 2175 ls1 [])) : W p l e R s m args below meth c H locs cells slots Q (F0 m 1743 ls []) := by
  obtain ⟨hx', hb, hr, hml, hown, hts, hlocks, hRf, hRl⟩ := id C0
  obtain ⟨vi, vj, va, vb⟩ := M'
  refine lv_aload_n hx' hb d_LAW_1743 rfl (lv_at hl 1 rfl) ?_
  refine lv_aload_n hx' hb d_LAW_1744 rfl (lv_at hl 0 rfl) ?_
  refine lv_iload hx' hb d_LAW_1745 (lv_at hl 4 rfl) ?_
  refine lv_iconst (v := 1) hx' hb d_LAW_1747 (by decide) ?_
  refine lv_iadd hx' hb d_LAW_1748 ?_
  refine law_ld C0 hLX hLA h1 d_LAW_1749 ?_
  refine lv_aload_n hx' hb d_LAW_1750 rfl (lv_at hl 0 rfl) ?_
  refine lv_iload hx' hb d_LAW_1751 (lv_at hl 4 rfl) ?_
  refine lv_iconst (v := 2) hx' hb d_LAW_1753 (by decide) ?_
  refine lv_iadd hx' hb d_LAW_1754 ?_
  refine law_ld C0 hLX hLA h2 d_LAW_1755 ?_
  refine lv_aload_n hx' hb d_LAW_1756 rfl (lv_at hl 3 rfl) ?_
  refine law_W (y := y_LW_write) (n := 4) (As := [.ref hx, .int (xs (i + 1).toNatClampNeg), .int (xs (i + 2).toNatClampNeg), .ref o]) (rest := []) C0 hLX hLA (fun ad cA za zad zcA cO f => q_write l hno dC dI hx ad cA za zad zcA S nf (xs (i + 1).toNatClampNeg) (xs (i + 2).toNatClampNeg) hc o cO f) m_6_6 m_6_7 m_1_0 m_6_8 (by decide +kernel) ⟨Nat.le_trans (Nat.le_of_ble_eq_true rfl) hRf, Nat.le_trans (Nat.le_of_ble_eq_true rfl) hRl⟩ ⟨Nat.le_trans (Nat.le_of_ble_eq_true rfl) hRf, Nat.le_trans (Nat.le_of_ble_eq_true rfl) hRl⟩ rfl hl.1 rfl (Nat.le_of_ble_eq_true rfl) d_LAW_1757 ⟨hcell, hslot⟩ (fun H locs a1 ha hLA => ?_)
  refine lv_istore (lv' := [(5, .int k), (0, .ref b), (1, .ref hx), (2, .ref hm), (3, .ref o), (4, .int i)]) hx' hb d_LAW_1760 hl (by decide) rfl (fun ls hl => ?_)
  refine lv_aload_n hx' hb d_LAW_1762 rfl (lv_at hl 3 rfl) ?_
  refine lv_aload_n hx' hb d_LAW_1763 rfl (lv_at hl 1 rfl) ?_
  refine lv_iload hx' hb d_LAW_1764 (lv_at hl 5 rfl) ?_
  refine lv_iconst (v := 1) hx' hb d_LAW_1766 (by decide) ?_
  refine lv_iadd hx' hb d_LAW_1767 ?_
  refine law_ld C0 hLX hLA h1 d_LAW_1768 ?_
  refine lv_aload_n hx' hb d_LAW_1769 rfl (lv_at hl 1 rfl) ?_
  refine lv_iload hx' hb d_LAW_1770 (lv_at hl 5 rfl) ?_
  refine lv_iconst (v := 2) hx' hb d_LAW_1772 (by decide) ?_
  refine lv_iadd hx' hb d_LAW_1773 ?_
  refine law_ld C0 hLX hLA h2 d_LAW_1774 ?_
  refine law_M (As := [.int (xs (i + 1).toNatClampNeg), .int (xs (i + 2).toNatClampNeg)]) (rest := []) (M' := (vi, vj, va, vb)) C0 hLX hLA (fun r cM => OM.ofMo (fun sz => c_Mo_write l dC dI hm r cM sz nf (xs (i + 1).toNatClampNeg) (xs (i + 2).toNatClampNeg) M.1 M.2.1 M.2.2.1 M.2.2.2 hm1)) (cwV 2 hts (gdV m_8_108 m_8_109 m_8_110 m_1_10 m_8_111) rfl rfl rfl (by decide +kernel) ⟨Nat.le_trans (Nat.le_of_ble_eq_true rfl) hRf, Nat.le_trans (Nat.le_of_ble_eq_true rfl) hRl⟩) rfl hl.1 rfl (Nat.le_of_ble_eq_true rfl) d_LAW_1775 ⟨hcell, hslot⟩ rfl (fun H locs hLA => ?_)
  refine lv_istore (lv' := [(6, .int r0), (5, .int k), (0, .ref b), (1, .ref hx), (2, .ref hm), (3, .ref o), (4, .int i)]) hx' hb d_LAW_1778 hl (by decide) rfl (fun ls hl => ?_)
  refine lv_aload_n hx' hb d_LAW_1780 rfl (lv_at hl 4 rfl) ?_
  refine law_M (As := []) (rest := []) (M' := (vi, vj, va, vb)) C0 hLX hLA (fun r cM => OM.ofRO (c_Mo_thrown l dC dI hm r cM nf vi vj va vb ht)) (cwV 0 hts (gdV m_7_105 m_7_106 m_7_107 m_1_10 m_7_108) rfl rfl rfl (by decide +kernel) ⟨Nat.le_trans (Nat.le_of_ble_eq_true rfl) hRf, Nat.le_trans (Nat.le_of_ble_eq_true rfl) hRl⟩) rfl hl.1 rfl (Nat.le_of_ble_eq_true rfl) d_LAW_1781 ⟨hcell, hslot⟩ rfl (fun H locs hLA => ?_)
  refine lv_iload hx' hb d_LAW_1784 (lv_at hl 1 rfl) ?_
  refine lv_icmp_eq (tgt := 1791) hx' hb d_LAW_1786 (by decide) (fun _ => ?_) (fun cc => absurd rfl cc)
  refine lv_iload hx' hb d_LAW_1791 (lv_at hl 1 rfl) ?_
  refine lv_if_ne (tgt := 1808) hx' hb d_LAW_1793 (by decide) (fun ck => ?_) (fun ck => ?_)
  · refine lv_goto (tgt := 2175) hx' hb d_LAW_1808 (by decide) ?_
    exact kk _ _ _ _ hLA (lv_sub hl [2, 3, 4, 5, 6] rfl)
  · refine lv_aload_n hx' hb d_LAW_1796 rfl (lv_at hl 5 rfl) ?_
    refine lv_iconst (v := 0) hx' hb d_LAW_1797 (by decide) ?_
    refine law_out C0 hLA d_LAW_1798 ?_
    refine lv_iload hx' hb d_LAW_1799 (lv_at hl 0 rfl) ?_
    refine lv_i2l hx' hb d_LAW_1801 rfl ?_
    refine lc_eq (tgt := 1808) hx' hb d_LAW_1802 d_LAW_1803 (by decide) (fun _ => ?_) (fun cc => absurd ((ha ck).trans (he ck)) cc)
    refine lv_goto (tgt := 2175) hx' hb d_LAW_1808 (by decide) ?_
    exact kk _ _ _ _ hLA (lv_sub hl [2, 3, 4, 5, 6] rfl)
set_option maxRecDepth 100000 in
set_option maxHeartbeats 1000000 in
theorem law_outc (C0 : Cx p s m meth c args R code "ZoneFilesLaw" 8 (some .boolean) 12 518) (hLX : LX s b L xs) (hno : NT l) (nf : Nat) {i : Int32} (h1 : vp_in (i + 1) L) (hLA : LA dC dI s hx hm o S M a H locs) (hl : lv_has ls 8 [(0, .ref b), (1, .ref hx), (2, .ref hm), (3, .ref o), (4, .int i)]) {S' : CS} {k : Int32} {ans : Int64} {kc ks : Nat} (hc : cq_out nf S (xs (i + 1).toNatClampNeg) = some (k, ans, S', kc, ks)) {r0 : Int32} {M' : MS} (hm1 : f_Mo_out nf (xs (i + 1).toNatClampNeg) M.1 M.2.1 M.2.2.1 M.2.2.2 = some (r0, M')) (ht : f_Mo_thrown nf M'.1 M'.2.1 M'.2.2.1 M'.2.2.2 = some k) (he : k = 0 → ans = r0.toInt64) (hcell : cells + kc ≤ R.cells) (hslot : slots + ks ≤ R.slots)
    (kk : ∀ (H1 : Heap) (locs1 : List Loc) (a1 : Int64) (ls1 : Array Slot), LA dC dI s hx hm o S' M' a1 H1 locs1 → lv_has ls1 8 [(0, .ref b), (1, .ref hx), (2, .ref hm), (3, .ref o), (4, .int i)] → W p l e R s m args below meth c H1 locs1 (cells + kc) (slots + ks) Q (F0 m 2175 ls1 [])) : W p l e R s m args below meth c H locs cells slots Q (F0 m 1811 ls []) := by
  obtain ⟨hx', hb, hr, hml, hown, hts, hlocks, hRf, hRl⟩ := id C0
  obtain ⟨vi, vj, va, vb⟩ := M'
  refine lv_aload_n hx' hb d_LAW_1811 rfl (lv_at hl 1 rfl) ?_
  refine lv_aload_n hx' hb d_LAW_1812 rfl (lv_at hl 0 rfl) ?_
  refine lv_iload hx' hb d_LAW_1813 (lv_at hl 4 rfl) ?_
  refine lv_iconst (v := 1) hx' hb d_LAW_1815 (by decide) ?_
  refine lv_iadd hx' hb d_LAW_1816 ?_
  refine law_ld C0 hLX hLA h1 d_LAW_1817 ?_
  refine lv_aload_n hx' hb d_LAW_1818 rfl (lv_at hl 3 rfl) ?_
  refine law_W (y := y_LW_out) (n := 3) (As := [.ref hx, .int (xs (i + 1).toNatClampNeg), .ref o]) (rest := []) C0 hLX hLA (fun ad cA za zad zcA cO f => q_out l hno dC dI hx ad cA za zad zcA S nf (xs (i + 1).toNatClampNeg) hc o cO f) m_6_47 m_6_48 m_1_0 m_6_49 (by decide +kernel) ⟨Nat.le_trans (Nat.le_of_ble_eq_true rfl) hRf, Nat.le_trans (Nat.le_of_ble_eq_true rfl) hRl⟩ ⟨Nat.le_trans (Nat.le_of_ble_eq_true rfl) hRf, Nat.le_trans (Nat.le_of_ble_eq_true rfl) hRl⟩ rfl hl.1 rfl (Nat.le_of_ble_eq_true rfl) d_LAW_1819 ⟨hcell, hslot⟩ (fun H locs a1 ha hLA => ?_)
  refine lv_istore (lv' := [(5, .int k), (0, .ref b), (1, .ref hx), (2, .ref hm), (3, .ref o), (4, .int i)]) hx' hb d_LAW_1822 hl (by decide) rfl (fun ls hl => ?_)
  refine lv_aload_n hx' hb d_LAW_1824 rfl (lv_at hl 3 rfl) ?_
  refine lv_aload_n hx' hb d_LAW_1825 rfl (lv_at hl 1 rfl) ?_
  refine lv_iload hx' hb d_LAW_1826 (lv_at hl 5 rfl) ?_
  refine lv_iconst (v := 1) hx' hb d_LAW_1828 (by decide) ?_
  refine lv_iadd hx' hb d_LAW_1829 ?_
  refine law_ld C0 hLX hLA h1 d_LAW_1830 ?_
  refine law_M (As := [.int (xs (i + 1).toNatClampNeg)]) (rest := []) (M' := (vi, vj, va, vb)) C0 hLX hLA (fun r cM => OM.ofMo (fun sz => c_Mo_out l dC dI hm r cM sz nf (xs (i + 1).toNatClampNeg) M.1 M.2.1 M.2.2.1 M.2.2.2 hm1)) (cwV 1 hts (gdV m_8_133 m_8_134 m_8_135 m_1_10 m_8_136) rfl rfl rfl (by decide +kernel) ⟨Nat.le_trans (Nat.le_of_ble_eq_true rfl) hRf, Nat.le_trans (Nat.le_of_ble_eq_true rfl) hRl⟩) rfl hl.1 rfl (Nat.le_of_ble_eq_true rfl) d_LAW_1831 ⟨hcell, hslot⟩ rfl (fun H locs hLA => ?_)
  refine lv_istore (lv' := [(6, .int r0), (5, .int k), (0, .ref b), (1, .ref hx), (2, .ref hm), (3, .ref o), (4, .int i)]) hx' hb d_LAW_1834 hl (by decide) rfl (fun ls hl => ?_)
  refine lv_aload_n hx' hb d_LAW_1836 rfl (lv_at hl 4 rfl) ?_
  refine law_M (As := []) (rest := []) (M' := (vi, vj, va, vb)) C0 hLX hLA (fun r cM => OM.ofRO (c_Mo_thrown l dC dI hm r cM nf vi vj va vb ht)) (cwV 0 hts (gdV m_7_105 m_7_106 m_7_107 m_1_10 m_7_108) rfl rfl rfl (by decide +kernel) ⟨Nat.le_trans (Nat.le_of_ble_eq_true rfl) hRf, Nat.le_trans (Nat.le_of_ble_eq_true rfl) hRl⟩) rfl hl.1 rfl (Nat.le_of_ble_eq_true rfl) d_LAW_1837 ⟨hcell, hslot⟩ rfl (fun H locs hLA => ?_)
  refine lv_iload hx' hb d_LAW_1840 (lv_at hl 1 rfl) ?_
  refine lv_icmp_eq (tgt := 1847) hx' hb d_LAW_1842 (by decide) (fun _ => ?_) (fun cc => absurd rfl cc)
  refine lv_iload hx' hb d_LAW_1847 (lv_at hl 1 rfl) ?_
  refine lv_if_ne (tgt := 1864) hx' hb d_LAW_1849 (by decide) (fun ck => ?_) (fun ck => ?_)
  · refine lv_goto (tgt := 2175) hx' hb d_LAW_1864 (by decide) ?_
    exact kk _ _ _ _ hLA (lv_sub hl [2, 3, 4, 5, 6] rfl)
  · refine lv_aload_n hx' hb d_LAW_1852 rfl (lv_at hl 5 rfl) ?_
    refine lv_iconst (v := 0) hx' hb d_LAW_1853 (by decide) ?_
    refine law_out C0 hLA d_LAW_1854 ?_
    refine lv_iload hx' hb d_LAW_1855 (lv_at hl 0 rfl) ?_
    refine lv_i2l hx' hb d_LAW_1857 rfl ?_
    refine lc_eq (tgt := 1864) hx' hb d_LAW_1858 d_LAW_1859 (by decide) (fun _ => ?_) (fun cc => absurd ((ha ck).trans (he ck)) cc)
    refine lv_goto (tgt := 2175) hx' hb d_LAW_1864 (by decide) ?_
    exact kk _ _ _ _ hLA (lv_sub hl [2, 3, 4, 5, 6] rfl)
set_option maxRecDepth 100000 in
set_option maxHeartbeats 1000000 in
theorem law_again (C0 : Cx p s m meth c args R code "ZoneFilesLaw" 8 (some .boolean) 12 518) (hLX : LX s b L xs) (hno : NT l) (nf : Nat) {i : Int32} (hLA : LA dC dI s hx hm o S M a H locs) (hl : lv_has ls 8 [(0, .ref b), (1, .ref hx), (2, .ref hm), (3, .ref o), (4, .int i)]) {S' : CS} {rc r0 : Int32} {kc ks : Nat} (hc : cq_again nf S = some (rc, S', kc, ks)) {M' : MS} (hm1 : f_Mo_again nf M.1 M.2.1 M.2.2.1 M.2.2.2 = some (r0, M')) (he : rc = r0) (hcell : cells + kc ≤ R.cells) (hslot : slots + ks ≤ R.slots)
    (kk : ∀ (H1 : Heap) (locs1 : List Loc) (a1 : Int64) (ls1 : Array Slot), LA dC dI s hx hm o S' M' a1 H1 locs1 → lv_has ls1 8 [(0, .ref b), (1, .ref hx), (2, .ref hm), (3, .ref o), (4, .int i)] → W p l e R s m args below meth c H1 locs1 (cells + kc) (slots + ks) Q (F0 m 2175 ls1 [])) : W p l e R s m args below meth c H locs cells slots Q (F0 m 1867 ls []) := by
  obtain ⟨hx', hb, hr, hml, hown, hts, hlocks, hRf, hRl⟩ := id C0
  obtain ⟨vi, vj, va, vb⟩ := M'
  refine lv_aload_n hx' hb d_LAW_1867 rfl (lv_at hl 1 rfl) ?_
  refine law_C (As := []) (rest := []) C0 hLX hLA (fun ad cA za zad zcA => q_again l dC dI hx ad cA za zad zcA S nf hc) (cwV 0 hts (gdV m_3_3 m_3_4 m_3_5 m_1_1 m_3_6) rfl rfl rfl (by decide +kernel) ⟨Nat.le_trans (Nat.le_of_ble_eq_true rfl) hRf, Nat.le_trans (Nat.le_of_ble_eq_true rfl) hRl⟩) rfl hl.1 rfl (Nat.le_of_ble_eq_true rfl) d_LAW_1868 ⟨hcell, hslot⟩ rfl (fun H locs hLA => ?_)
  refine lv_aload_n hx' hb d_LAW_1871 rfl (lv_at hl 2 rfl) ?_
  refine law_M (As := []) (rest := [.int rc]) (M' := (vi, vj, va, vb)) C0 hLX hLA (fun r cM => OM.ofMo (fun sz => c_Mo_again l dC dI hm r cM sz nf M.1 M.2.1 M.2.2.1 M.2.2.2 hm1)) (cwV 0 hts (gdV m_8_137 m_8_138 m_8_139 m_1_10 m_8_140) rfl rfl rfl (by decide +kernel) ⟨Nat.le_trans (Nat.le_of_ble_eq_true rfl) hRf, Nat.le_trans (Nat.le_of_ble_eq_true rfl) hRl⟩) rfl hl.1 rfl (Nat.le_of_ble_eq_true rfl) d_LAW_1872 ⟨hcell, hslot⟩ rfl (fun H locs hLA => ?_)
  refine lv_icmp_eq (tgt := 2175) hx' hb d_LAW_1875 (by decide) (fun _ => ?_) (fun cc => absurd he cc)
  exact kk _ _ _ _ hLA (lv_sub hl [0, 1, 2, 3, 4] rfl)
set_option maxRecDepth 100000 in
set_option maxHeartbeats 1000000 in
theorem law_told (C0 : Cx p s m meth c args R code "ZoneFilesLaw" 8 (some .boolean) 12 518) (hLX : LX s b L xs) (hno : NT l) (nf : Nat) {i : Int32} (h1 : vp_in (i + 1) L) (hLA : LA dC dI s hx hm o S M a H locs) (hl : lv_has ls 8 [(0, .ref b), (1, .ref hx), (2, .ref hm), (3, .ref o), (4, .int i)]) {S' : CS} {k : Int32} {ans : Int64} {kc ks : Nat} (hc : cq_told nf S (xs (i + 1).toNatClampNeg) = some (k, ans, S', kc, ks)) {r0 : Int64} {M' : MS} (hm1 : f_Mo_told nf (xs (i + 1).toNatClampNeg) M.1 M.2.1 M.2.2.1 M.2.2.2 = some (r0, M')) (ht : f_Mo_thrown nf M'.1 M'.2.1 M'.2.2.1 M'.2.2.2 = some k) (he : k = 0 → ans = r0) (hcell : cells + kc ≤ R.cells) (hslot : slots + ks ≤ R.slots)
    (kk : ∀ (H1 : Heap) (locs1 : List Loc) (a1 : Int64) (ls1 : Array Slot), LA dC dI s hx hm o S' M' a1 H1 locs1 → lv_has ls1 8 [(0, .ref b), (1, .ref hx), (2, .ref hm), (3, .ref o), (4, .int i)] → W p l e R s m args below meth c H1 locs1 (cells + kc) (slots + ks) Q (F0 m 2175 ls1 [])) : W p l e R s m args below meth c H locs cells slots Q (F0 m 1880 ls []) := by
  obtain ⟨hx', hb, hr, hml, hown, hts, hlocks, hRf, hRl⟩ := id C0
  obtain ⟨vi, vj, va, vb⟩ := M'
  refine lv_aload_n hx' hb d_LAW_1880 rfl (lv_at hl 1 rfl) ?_
  refine lv_aload_n hx' hb d_LAW_1881 rfl (lv_at hl 0 rfl) ?_
  refine lv_iload hx' hb d_LAW_1882 (lv_at hl 4 rfl) ?_
  refine lv_iconst (v := 1) hx' hb d_LAW_1884 (by decide) ?_
  refine lv_iadd hx' hb d_LAW_1885 ?_
  refine law_ld C0 hLX hLA h1 d_LAW_1886 ?_
  refine lv_aload_n hx' hb d_LAW_1887 rfl (lv_at hl 3 rfl) ?_
  refine law_W (y := y_LW_told) (n := 3) (As := [.ref hx, .int (xs (i + 1).toNatClampNeg), .ref o]) (rest := []) C0 hLX hLA (fun ad cA za zad zcA cO f => q_told l hno dC dI hx ad cA za zad zcA S nf (xs (i + 1).toNatClampNeg) hc o cO f) m_6_54 m_6_55 m_1_0 m_6_56 (by decide +kernel) ⟨Nat.le_trans (Nat.le_of_ble_eq_true rfl) hRf, Nat.le_trans (Nat.le_of_ble_eq_true rfl) hRl⟩ ⟨Nat.le_trans (Nat.le_of_ble_eq_true rfl) hRf, Nat.le_trans (Nat.le_of_ble_eq_true rfl) hRl⟩ rfl hl.1 rfl (Nat.le_of_ble_eq_true rfl) d_LAW_1888 ⟨hcell, hslot⟩ (fun H locs a1 ha hLA => ?_)
  refine lv_istore (lv' := [(5, .int k), (0, .ref b), (1, .ref hx), (2, .ref hm), (3, .ref o), (4, .int i)]) hx' hb d_LAW_1891 hl (by decide) rfl (fun ls hl => ?_)
  refine lv_aload_n hx' hb d_LAW_1893 rfl (lv_at hl 3 rfl) ?_
  refine lv_aload_n hx' hb d_LAW_1894 rfl (lv_at hl 1 rfl) ?_
  refine lv_iload hx' hb d_LAW_1895 (lv_at hl 5 rfl) ?_
  refine lv_iconst (v := 1) hx' hb d_LAW_1897 (by decide) ?_
  refine lv_iadd hx' hb d_LAW_1898 ?_
  refine law_ld C0 hLX hLA h1 d_LAW_1899 ?_
  refine law_M (As := [.int (xs (i + 1).toNatClampNeg)]) (rest := []) (M' := (vi, vj, va, vb)) C0 hLX hLA (fun r cM => OM.ofMo (fun sz => c_Mo_told l dC dI hm r cM sz nf (xs (i + 1).toNatClampNeg) M.1 M.2.1 M.2.2.1 M.2.2.2 hm1)) (cwV 1 hts (gdV m_8_210 m_8_211 m_8_212 m_1_10 m_8_213) rfl rfl rfl (by decide +kernel) ⟨Nat.le_trans (Nat.le_of_ble_eq_true rfl) hRf, Nat.le_trans (Nat.le_of_ble_eq_true rfl) hRl⟩) rfl hl.1 rfl (Nat.le_of_ble_eq_true rfl) d_LAW_1900 ⟨hcell, hslot⟩ rfl (fun H locs hLA => ?_)
  refine lv_lstore (lv' := [(6, .long r0), (5, .int k), (0, .ref b), (1, .ref hx), (2, .ref hm), (3, .ref o), (4, .int i)]) hx' hb d_LAW_1903 hl (by decide) rfl (fun ls hl => ?_)
  refine lv_aload_n hx' hb d_LAW_1905 rfl (lv_at hl 4 rfl) ?_
  refine law_M (As := []) (rest := []) (M' := (vi, vj, va, vb)) C0 hLX hLA (fun r cM => OM.ofRO (c_Mo_thrown l dC dI hm r cM nf vi vj va vb ht)) (cwV 0 hts (gdV m_7_105 m_7_106 m_7_107 m_1_10 m_7_108) rfl rfl rfl (by decide +kernel) ⟨Nat.le_trans (Nat.le_of_ble_eq_true rfl) hRf, Nat.le_trans (Nat.le_of_ble_eq_true rfl) hRl⟩) rfl hl.1 rfl (Nat.le_of_ble_eq_true rfl) d_LAW_1906 ⟨hcell, hslot⟩ rfl (fun H locs hLA => ?_)
  refine lv_iload hx' hb d_LAW_1909 (lv_at hl 1 rfl) ?_
  refine lv_icmp_eq (tgt := 1916) hx' hb d_LAW_1911 (by decide) (fun _ => ?_) (fun cc => absurd rfl cc)
  refine lv_iload hx' hb d_LAW_1916 (lv_at hl 1 rfl) ?_
  refine lv_if_ne (tgt := 1932) hx' hb d_LAW_1918 (by decide) (fun ck => ?_) (fun ck => ?_)
  · refine lv_goto (tgt := 2175) hx' hb d_LAW_1932 (by decide) ?_
    exact kk _ _ _ _ hLA (lv_sub hl [2, 3, 4, 5, 6] rfl)
  · refine lv_aload_n hx' hb d_LAW_1921 rfl (lv_at hl 5 rfl) ?_
    refine lv_iconst (v := 0) hx' hb d_LAW_1922 (by decide) ?_
    refine law_out C0 hLA d_LAW_1923 ?_
    refine lv_lload hx' hb d_LAW_1924 (lv_at hl 0 rfl) ?_
    refine lc_eq (tgt := 1932) hx' hb d_LAW_1926 d_LAW_1927 (by decide) (fun _ => ?_) (fun cc => absurd ((ha ck).trans (he ck)) cc)
    refine lv_goto (tgt := 2175) hx' hb d_LAW_1932 (by decide) ?_
    exact kk _ _ _ _ hLA (lv_sub hl [2, 3, 4, 5, 6] rfl)
set_option maxRecDepth 100000 in
set_option maxHeartbeats 1000000 in
theorem law_row (C0 : Cx p s m meth c args R code "ZoneFilesLaw" 8 (some .boolean) 12 518) (hLX : LX s b L xs) (hno : NT l) (nf : Nat) {i : Int32} (h1 : vp_in (i + 1) L) (h2 : vp_in (i + 2) L) (hLA : LA dC dI s hx hm o S M a H locs) (hl : lv_has ls 8 [(0, .ref b), (1, .ref hx), (2, .ref hm), (3, .ref o), (4, .int i)]) {S' : CS} {k : Int32} {ans : Int64} {kc ks : Nat} (hc : cq_row nf S (xs (i + 1).toNatClampNeg) (xs (i + 2).toNatClampNeg) = some (k, ans, S', kc, ks)) {r0 : Int64} {M' : MS} (hm1 : f_Mo_row nf (xs (i + 1).toNatClampNeg) (xs (i + 2).toNatClampNeg) M.1 M.2.1 M.2.2.1 M.2.2.2 = some (r0, M')) (ht : f_Mo_thrown nf M'.1 M'.2.1 M'.2.2.1 M'.2.2.2 = some k) (he : k = 0 → ans = r0) (hcell : cells + kc ≤ R.cells) (hslot : slots + ks ≤ R.slots)
    (kk : ∀ (H1 : Heap) (locs1 : List Loc) (a1 : Int64) (ls1 : Array Slot), LA dC dI s hx hm o S' M' a1 H1 locs1 → lv_has ls1 8 [(0, .ref b), (1, .ref hx), (2, .ref hm), (3, .ref o), (4, .int i)] → W p l e R s m args below meth c H1 locs1 (cells + kc) (slots + ks) Q (F0 m 2175 ls1 [])) : W p l e R s m args below meth c H locs cells slots Q (F0 m 1935 ls []) := by
  obtain ⟨hx', hb, hr, hml, hown, hts, hlocks, hRf, hRl⟩ := id C0
  obtain ⟨vi, vj, va, vb⟩ := M'
  refine lv_aload_n hx' hb d_LAW_1935 rfl (lv_at hl 1 rfl) ?_
  refine lv_aload_n hx' hb d_LAW_1936 rfl (lv_at hl 0 rfl) ?_
  refine lv_iload hx' hb d_LAW_1937 (lv_at hl 4 rfl) ?_
  refine lv_iconst (v := 1) hx' hb d_LAW_1939 (by decide) ?_
  refine lv_iadd hx' hb d_LAW_1940 ?_
  refine law_ld C0 hLX hLA h1 d_LAW_1941 ?_
  refine lv_aload_n hx' hb d_LAW_1942 rfl (lv_at hl 0 rfl) ?_
  refine lv_iload hx' hb d_LAW_1943 (lv_at hl 4 rfl) ?_
  refine lv_iconst (v := 2) hx' hb d_LAW_1945 (by decide) ?_
  refine lv_iadd hx' hb d_LAW_1946 ?_
  refine law_ld C0 hLX hLA h2 d_LAW_1947 ?_
  refine lv_aload_n hx' hb d_LAW_1948 rfl (lv_at hl 3 rfl) ?_
  refine law_W (y := y_LW_row) (n := 4) (As := [.ref hx, .int (xs (i + 1).toNatClampNeg), .int (xs (i + 2).toNatClampNeg), .ref o]) (rest := []) C0 hLX hLA (fun ad cA za zad zcA cO f => q_row l hno dC dI hx ad cA za zad zcA S nf (xs (i + 1).toNatClampNeg) (xs (i + 2).toNatClampNeg) hc o cO f) m_6_62 m_6_63 m_1_0 m_6_64 (by decide +kernel) ⟨Nat.le_trans (Nat.le_of_ble_eq_true rfl) hRf, Nat.le_trans (Nat.le_of_ble_eq_true rfl) hRl⟩ ⟨Nat.le_trans (Nat.le_of_ble_eq_true rfl) hRf, Nat.le_trans (Nat.le_of_ble_eq_true rfl) hRl⟩ rfl hl.1 rfl (Nat.le_of_ble_eq_true rfl) d_LAW_1949 ⟨hcell, hslot⟩ (fun H locs a1 ha hLA => ?_)
  refine lv_istore (lv' := [(5, .int k), (0, .ref b), (1, .ref hx), (2, .ref hm), (3, .ref o), (4, .int i)]) hx' hb d_LAW_1952 hl (by decide) rfl (fun ls hl => ?_)
  refine lv_aload_n hx' hb d_LAW_1954 rfl (lv_at hl 3 rfl) ?_
  refine lv_aload_n hx' hb d_LAW_1955 rfl (lv_at hl 1 rfl) ?_
  refine lv_iload hx' hb d_LAW_1956 (lv_at hl 5 rfl) ?_
  refine lv_iconst (v := 1) hx' hb d_LAW_1958 (by decide) ?_
  refine lv_iadd hx' hb d_LAW_1959 ?_
  refine law_ld C0 hLX hLA h1 d_LAW_1960 ?_
  refine lv_aload_n hx' hb d_LAW_1961 rfl (lv_at hl 1 rfl) ?_
  refine lv_iload hx' hb d_LAW_1962 (lv_at hl 5 rfl) ?_
  refine lv_iconst (v := 2) hx' hb d_LAW_1964 (by decide) ?_
  refine lv_iadd hx' hb d_LAW_1965 ?_
  refine law_ld C0 hLX hLA h2 d_LAW_1966 ?_
  refine law_M (As := [.int (xs (i + 1).toNatClampNeg), .int (xs (i + 2).toNatClampNeg)]) (rest := []) (M' := (vi, vj, va, vb)) C0 hLX hLA (fun r cM => OM.ofMo (fun sz => c_Mo_row l dC dI hm r cM sz nf (xs (i + 1).toNatClampNeg) (xs (i + 2).toNatClampNeg) M.1 M.2.1 M.2.2.1 M.2.2.2 hm1)) (cwV 2 hts (gdV m_8_214 m_8_215 m_8_216 m_1_10 m_8_217) rfl rfl rfl (by decide +kernel) ⟨Nat.le_trans (Nat.le_of_ble_eq_true rfl) hRf, Nat.le_trans (Nat.le_of_ble_eq_true rfl) hRl⟩) rfl hl.1 rfl (Nat.le_of_ble_eq_true rfl) d_LAW_1967 ⟨hcell, hslot⟩ rfl (fun H locs hLA => ?_)
  refine lv_lstore (lv' := [(6, .long r0), (5, .int k), (0, .ref b), (1, .ref hx), (2, .ref hm), (3, .ref o), (4, .int i)]) hx' hb d_LAW_1970 hl (by decide) rfl (fun ls hl => ?_)
  refine lv_aload_n hx' hb d_LAW_1972 rfl (lv_at hl 4 rfl) ?_
  refine law_M (As := []) (rest := []) (M' := (vi, vj, va, vb)) C0 hLX hLA (fun r cM => OM.ofRO (c_Mo_thrown l dC dI hm r cM nf vi vj va vb ht)) (cwV 0 hts (gdV m_7_105 m_7_106 m_7_107 m_1_10 m_7_108) rfl rfl rfl (by decide +kernel) ⟨Nat.le_trans (Nat.le_of_ble_eq_true rfl) hRf, Nat.le_trans (Nat.le_of_ble_eq_true rfl) hRl⟩) rfl hl.1 rfl (Nat.le_of_ble_eq_true rfl) d_LAW_1973 ⟨hcell, hslot⟩ rfl (fun H locs hLA => ?_)
  refine lv_iload hx' hb d_LAW_1976 (lv_at hl 1 rfl) ?_
  refine lv_icmp_eq (tgt := 1983) hx' hb d_LAW_1978 (by decide) (fun _ => ?_) (fun cc => absurd rfl cc)
  refine lv_iload hx' hb d_LAW_1983 (lv_at hl 1 rfl) ?_
  refine lv_if_ne (tgt := 1999) hx' hb d_LAW_1985 (by decide) (fun ck => ?_) (fun ck => ?_)
  · refine lv_goto (tgt := 2175) hx' hb d_LAW_1999 (by decide) ?_
    exact kk _ _ _ _ hLA (lv_sub hl [2, 3, 4, 5, 6] rfl)
  · refine lv_aload_n hx' hb d_LAW_1988 rfl (lv_at hl 5 rfl) ?_
    refine lv_iconst (v := 0) hx' hb d_LAW_1989 (by decide) ?_
    refine law_out C0 hLA d_LAW_1990 ?_
    refine lv_lload hx' hb d_LAW_1991 (lv_at hl 0 rfl) ?_
    refine lc_eq (tgt := 1999) hx' hb d_LAW_1993 d_LAW_1994 (by decide) (fun _ => ?_) (fun cc => absurd ((ha ck).trans (he ck)) cc)
    refine lv_goto (tgt := 2175) hx' hb d_LAW_1999 (by decide) ?_
    exact kk _ _ _ _ hLA (lv_sub hl [2, 3, 4, 5, 6] rfl)
end
