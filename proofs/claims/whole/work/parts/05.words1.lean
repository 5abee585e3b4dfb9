theorem wm1827 : (Jvm.Cond.code ({ cls := "FirstComerModel", name := "reads", desc := "()Z" } : Jvm.MethodName) prog_14_method_28_code (6 : Nat) (Option.some Jvm.ClassFile.FieldType.boolean)) ∈ jm_tbl := jm_in (tb8 (List.mem_of_getElem? (i := 60) rfl)) rfl
theorem wm1830 : (Jvm.Cond.instanceMethod ({ cls := "FirstComerModel", name := "fact", desc := "()I" } : Jvm.MethodName)) ∈ jm_tbl := jm_in (tb8 (List.mem_of_getElem? (i := 63) rfl)) rfl
theorem wm1831 : (Jvm.Cond.code ({ cls := "FirstComerModel", name := "fact", desc := "()I" } : Jvm.MethodName) prog_14_method_26_code (1 : Nat) (Option.some Jvm.ClassFile.FieldType.int)) ∈ jm_tbl := jm_in (tb8 (List.mem_of_getElem? (i := 64) rfl)) rfl
theorem wm1832 : (Jvm.Cond.constantLong "FirstComerModel" (285 : Nat) (14 : Int64)) ∈ jm_tbl := jm_in (tb8 (List.mem_of_getElem? (i := 65) rfl)) rfl
theorem wm1833 : (Jvm.Cond.constantLong "FirstComerModel" (291 : Nat) (5948362 : Int64)) ∈ jm_tbl := jm_in (tb8 (List.mem_of_getElem? (i := 66) rfl)) rfl
theorem wm1834 : (Jvm.Cond.constantLong "FirstComerModel" (293 : Nat) (82236848 : Int64)) ∈ jm_tbl := jm_in (tb8 (List.mem_of_getElem? (i := 67) rfl)) rfl
theorem wm1835 : (Jvm.Cond.constantLong "FirstComerModel" (295 : Nat) (5878 : Int64)) ∈ jm_tbl := jm_in (tb8 (List.mem_of_getElem? (i := 68) rfl)) rfl
theorem wm1836 : (Jvm.Cond.constantLong "FirstComerModel" (297 : Nat) (279346 : Int64)) ∈ jm_tbl := jm_in (tb8 (List.mem_of_getElem? (i := 69) rfl)) rfl
theorem wm1837 : (Jvm.Cond.constantLong "FirstComerModel" (299 : Nat) (4555648 : Int64)) ∈ jm_tbl := jm_in (tb8 (List.mem_of_getElem? (i := 70) rfl)) rfl
theorem wm1838 : (Jvm.Cond.constantLong "FirstComerModel" (301 : Nat) (312409 : Int64)) ∈ jm_tbl := jm_in (tb8 (List.mem_of_getElem? (i := 71) rfl)) rfl
theorem wm1839 : (Jvm.Cond.constantLong "FirstComerModel" (303 : Nat) (60203876 : Int64)) ∈ jm_tbl := jm_in (tb8 (List.mem_of_getElem? (i := 72) rfl)) rfl
theorem wm1840 : (Jvm.Cond.constantLong "FirstComerModel" (305 : Nat) (2968 : Int64)) ∈ jm_tbl := jm_in (tb8 (List.mem_of_getElem? (i := 73) rfl)) rfl
theorem wm1841 : (Jvm.Cond.constantLong "FirstComerModel" (324 : Nat) (10631 : Int64)) ∈ jm_tbl := jm_in (tb8 (List.mem_of_getElem? (i := 74) rfl)) rfl
theorem wm1844 : (Jvm.Cond.instanceMethod ({ cls := "FirstComerModel", name := "puts", desc := "(I)V" } : Jvm.MethodName)) ∈ jm_tbl := jm_in (tb8 (List.mem_of_getElem? (i := 77) rfl)) rfl
theorem wm1845 : (Jvm.Cond.code ({ cls := "FirstComerModel", name := "puts", desc := "(I)V" } : Jvm.MethodName) prog_14_method_25_code (2 : Nat) (Option.none : Option Jvm.ClassFile.FieldType)) ∈ jm_tbl := jm_in (tb8 (List.mem_of_getElem? (i := 78) rfl)) rfl
theorem wm1846 : (Jvm.Cond.constantLong "FirstComerModel" (339 : Nat) (1111 : Int64)) ∈ jm_tbl := jm_in (tb8 (List.mem_of_getElem? (i := 79) rfl)) rfl
theorem wm1847 : (Jvm.Cond.constantLong "FirstComerModel" (341 : Nat) (423 : Int64)) ∈ jm_tbl := jm_in (tb8 (List.mem_of_getElem? (i := 80) rfl)) rfl
theorem wm1849 : (Jvm.Cond.instanceMethod ({ cls := "FirstComerModel", name := "pass", desc := "(IIIIIII)I" } : Jvm.MethodName)) ∈ jm_tbl := jm_in (tb8 (List.mem_of_getElem? (i := 82) rfl)) rfl
theorem wm1850 : (Jvm.Cond.selects "FirstComerModel" ({ cls := "FirstComerModel", name := "pass", desc := "(IIIIIII)I" } : Jvm.MethodName) ({ cls := "FirstComerModel", name := "pass", desc := "(IIIIIII)I" } : Jvm.MethodName)) ∈ jm_tbl := jm_in (tb8 (List.mem_of_getElem? (i := 83) rfl)) rfl
theorem wm1851 : (Jvm.Cond.code ({ cls := "FirstComerModel", name := "pass", desc := "(IIIIIII)I" } : Jvm.MethodName) prog_14_method_47_code (12 : Nat) (Option.some Jvm.ClassFile.FieldType.int)) ∈ jm_tbl := jm_in (tb8 (List.mem_of_getElem? (i := 84) rfl)) rfl
theorem wm1854 : (Jvm.Cond.instanceMethod ({ cls := "FirstComerModel", name := "isPassing", desc := "(IIIIIII)Z" } : Jvm.MethodName)) ∈ jm_tbl := jm_in (tb8 (List.mem_of_getElem? (i := 87) rfl)) rfl
theorem wm1855 : (Jvm.Cond.code ({ cls := "FirstComerModel", name := "isPassing", desc := "(IIIIIII)Z" } : Jvm.MethodName) prog_14_method_46_code (8 : Nat) (Option.some Jvm.ClassFile.FieldType.boolean)) ∈ jm_tbl := jm_in (tb8 (List.mem_of_getElem? (i := 88) rfl)) rfl
theorem wm1858 : (Jvm.Cond.instanceMethod ({ cls := "FirstComerModel", name := "lays", desc := "(IIIIIII)V" } : Jvm.MethodName)) ∈ jm_tbl := jm_in (tb8 (List.mem_of_getElem? (i := 91) rfl)) rfl
theorem wm1859 : (Jvm.Cond.code ({ cls := "FirstComerModel", name := "lays", desc := "(IIIIIII)V" } : Jvm.MethodName) prog_14_method_39_code (10 : Nat) (Option.none : Option Jvm.ClassFile.FieldType)) ∈ jm_tbl := jm_in (tb8 (List.mem_of_getElem? (i := 92) rfl)) rfl
theorem wm1862 : (Jvm.Cond.instanceMethod ({ cls := "FirstComerModel", name := "ownsOf", desc := "(I)I" } : Jvm.MethodName)) ∈ jm_tbl := jm_in (tb8 (List.mem_of_getElem? (i := 95) rfl)) rfl
theorem wm1863 : (Jvm.Cond.code ({ cls := "FirstComerModel", name := "ownsOf", desc := "(I)I" } : Jvm.MethodName) prog_14_method_38_code (4 : Nat) (Option.some Jvm.ClassFile.FieldType.int)) ∈ jm_tbl := jm_in (tb8 (List.mem_of_getElem? (i := 96) rfl)) rfl
theorem wm1866 : (Jvm.Cond.instanceMethod ({ cls := "FirstComerModel", name := "isFree", desc := "()Z" } : Jvm.MethodName)) ∈ jm_tbl := jm_in (tb8 (List.mem_of_getElem? (i := 99) rfl)) rfl
theorem wm1867 : (Jvm.Cond.code ({ cls := "FirstComerModel", name := "isFree", desc := "()Z" } : Jvm.MethodName) prog_14_method_42_code (2 : Nat) (Option.some Jvm.ClassFile.FieldType.boolean)) ∈ jm_tbl := jm_in (tb8 (List.mem_of_getElem? (i := 100) rfl)) rfl
theorem wm1870 : (Jvm.Cond.instanceMethod ({ cls := "FirstComerModel", name := "isForced", desc := "(I)Z" } : Jvm.MethodName)) ∈ jm_tbl := jm_in (tb8 (List.mem_of_getElem? (i := 103) rfl)) rfl
theorem wm1871 : (Jvm.Cond.code ({ cls := "FirstComerModel", name := "isForced", desc := "(I)Z" } : Jvm.MethodName) prog_14_method_41_code (4 : Nat) (Option.some Jvm.ClassFile.FieldType.boolean)) ∈ jm_tbl := jm_in (tb8 (List.mem_of_getElem? (i := 104) rfl)) rfl
theorem wm1874 : (Jvm.Cond.instanceMethod ({ cls := "FirstComerModel", name := "isSo", desc := "(II)Z" } : Jvm.MethodName)) ∈ jm_tbl := jm_in (tb8 (List.mem_of_getElem? (i := 107) rfl)) rfl
theorem wm1875 : (Jvm.Cond.code ({ cls := "FirstComerModel", name := "isSo", desc := "(II)Z" } : Jvm.MethodName) prog_14_method_40_code (3 : Nat) (Option.some Jvm.ClassFile.FieldType.boolean)) ∈ jm_tbl := jm_in (tb8 (List.mem_of_getElem? (i := 108) rfl)) rfl
theorem wm1878 : (Jvm.Cond.instanceMethod ({ cls := "FirstComerModel", name := "worth", desc := "(I)I" } : Jvm.MethodName)) ∈ jm_tbl := jm_in (tb8 (List.mem_of_getElem? (i := 111) rfl)) rfl
theorem wm1879 : (Jvm.Cond.code ({ cls := "FirstComerModel", name := "worth", desc := "(I)I" } : Jvm.MethodName) prog_14_method_37_code (6 : Nat) (Option.some Jvm.ClassFile.FieldType.int)) ∈ jm_tbl := jm_in (tb8 (List.mem_of_getElem? (i := 112) rfl)) rfl
theorem wm1882 : (Jvm.Cond.instanceMethod ({ cls := "FirstComerModel", name := "opens", desc := "(I)V" } : Jvm.MethodName)) ∈ jm_tbl := jm_in (tb8 (List.mem_of_getElem? (i := 115) rfl)) rfl
theorem wm1883 : (Jvm.Cond.code ({ cls := "FirstComerModel", name := "opens", desc := "(I)V" } : Jvm.MethodName) prog_14_method_34_code (2 : Nat) (Option.none : Option Jvm.ClassFile.FieldType)) ∈ jm_tbl := jm_in (tb8 (List.mem_of_getElem? (i := 116) rfl)) rfl
theorem wm1886 : (Jvm.Cond.instanceMethod ({ cls := "FirstComerModel", name := "sums", desc := "(I)V" } : Jvm.MethodName)) ∈ jm_tbl := jm_in (tb8 (List.mem_of_getElem? (i := 119) rfl)) rfl
theorem wm1887 : (Jvm.Cond.code ({ cls := "FirstComerModel", name := "sums", desc := "(I)V" } : Jvm.MethodName) prog_14_method_35_code (2 : Nat) (Option.none : Option Jvm.ClassFile.FieldType)) ∈ jm_tbl := jm_in (tb8 (List.mem_of_getElem? (i := 120) rfl)) rfl
theorem wm1890 : (Jvm.Cond.instanceMethod ({ cls := "FirstComerModel", name := "tests", desc := "(I)V" } : Jvm.MethodName)) ∈ jm_tbl := jm_in (tb8 (List.mem_of_getElem? (i := 123) rfl)) rfl
theorem wm1891 : (Jvm.Cond.code ({ cls := "FirstComerModel", name := "tests", desc := "(I)V" } : Jvm.MethodName) prog_14_method_36_code (3 : Nat) (Option.none : Option Jvm.ClassFile.FieldType)) ∈ jm_tbl := jm_in (tb8 (List.mem_of_getElem? (i := 124) rfl)) rfl
theorem wm1894 : (Jvm.Cond.instanceMethod ({ cls := "FirstComerModel", name := "rankOf", desc := "(I)I" } : Jvm.MethodName)) ∈ jm_tbl := jm_in (tb8 (List.mem_of_getElem? (i := 127) rfl)) rfl
theorem wm1895 : (Jvm.Cond.code ({ cls := "FirstComerModel", name := "rankOf", desc := "(I)I" } : Jvm.MethodName) prog_14_method_43_code (4 : Nat) (Option.some Jvm.ClassFile.FieldType.int)) ∈ jm_tbl := jm_in (tb8 (List.mem_of_getElem? (i := 128) rfl)) rfl
theorem wm1898 : (Jvm.Cond.instanceMethod ({ cls := "FirstComerModel", name := "comesFirst", desc := "(III)Z" } : Jvm.MethodName)) ∈ jm_tbl := jm_in (tb8 (List.mem_of_getElem? (i := 131) rfl)) rfl
theorem wm1899 : (Jvm.Cond.code ({ cls := "FirstComerModel", name := "comesFirst", desc := "(III)Z" } : Jvm.MethodName) prog_14_method_44_code (4 : Nat) (Option.some Jvm.ClassFile.FieldType.boolean)) ∈ jm_tbl := jm_in (tb8 (List.mem_of_getElem? (i := 132) rfl)) rfl
theorem wm1901 : (Jvm.Cond.instanceMethod ({ cls := "FirstComerModel", name := "would", desc := "(IIIIIII)I" } : Jvm.MethodName)) ∈ jm_tbl := jm_in (tb8 (List.mem_of_getElem? (i := 134) rfl)) rfl
theorem wm1902 : (Jvm.Cond.selects "FirstComerModel" ({ cls := "FirstComerModel", name := "would", desc := "(IIIIIII)I" } : Jvm.MethodName) ({ cls := "FirstComerModel", name := "would", desc := "(IIIIIII)I" } : Jvm.MethodName)) ∈ jm_tbl := jm_in (tb8 (List.mem_of_getElem? (i := 135) rfl)) rfl
theorem wm1903 : (Jvm.Cond.code ({ cls := "FirstComerModel", name := "would", desc := "(IIIIIII)I" } : Jvm.MethodName) prog_14_method_48_code (8 : Nat) (Option.some Jvm.ClassFile.FieldType.int)) ∈ jm_tbl := jm_in (tb8 (List.mem_of_getElem? (i := 136) rfl)) rfl
theorem wm1906 : (Jvm.Cond.instanceMethod ({ cls := "FirstComerModel", name := "comers", desc := "()I" } : Jvm.MethodName)) ∈ jm_tbl := jm_in (tb8 (List.mem_of_getElem? (i := 139) rfl)) rfl
theorem wm1907 : (Jvm.Cond.code ({ cls := "FirstComerModel", name := "comers", desc := "()I" } : Jvm.MethodName) prog_14_method_45_code (4 : Nat) (Option.some Jvm.ClassFile.FieldType.int)) ∈ jm_tbl := jm_in (tb8 (List.mem_of_getElem? (i := 140) rfl)) rfl
theorem wm1909 : (Jvm.Cond.instanceMethod ({ cls := "FirstComerModel", name := "look", desc := "(II)I" } : Jvm.MethodName)) ∈ jm_tbl := jm_in (tb8 (List.mem_of_getElem? (i := 142) rfl)) rfl
theorem wm1910 : (Jvm.Cond.selects "FirstComerModel" ({ cls := "FirstComerModel", name := "look", desc := "(II)I" } : Jvm.MethodName) ({ cls := "FirstComerModel", name := "look", desc := "(II)I" } : Jvm.MethodName)) ∈ jm_tbl := jm_in (tb8 (List.mem_of_getElem? (i := 143) rfl)) rfl
theorem wm1911 : (Jvm.Cond.code ({ cls := "FirstComerModel", name := "look", desc := "(II)I" } : Jvm.MethodName) prog_14_method_51_code (3 : Nat) (Option.some Jvm.ClassFile.FieldType.int)) ∈ jm_tbl := jm_in (tb8 (List.mem_of_getElem? (i := 144) rfl)) rfl
theorem wm1914 : (Jvm.Cond.instanceMethod ({ cls := "FirstComerModel", name := "isPassed", desc := "(I)Z" } : Jvm.MethodName)) ∈ jm_tbl := jm_in (tb8 (List.mem_of_getElem? (i := 147) rfl)) rfl
theorem wm1915 : (Jvm.Cond.code ({ cls := "FirstComerModel", name := "isPassed", desc := "(I)Z" } : Jvm.MethodName) prog_14_method_49_code (2 : Nat) (Option.some Jvm.ClassFile.FieldType.boolean)) ∈ jm_tbl := jm_in (tb8 (List.mem_of_getElem? (i := 148) rfl)) rfl
theorem wm1918 : (Jvm.Cond.instanceMethod ({ cls := "FirstComerModel", name := "askedPrice", desc := "(I)I" } : Jvm.MethodName)) ∈ jm_tbl := jm_in (tb8 (List.mem_of_getElem? (i := 151) rfl)) rfl
theorem wm1919 : (Jvm.Cond.code ({ cls := "FirstComerModel", name := "askedPrice", desc := "(I)I" } : Jvm.MethodName) prog_14_method_50_code (2 : Nat) (Option.some Jvm.ClassFile.FieldType.int)) ∈ jm_tbl := jm_in (tb8 (List.mem_of_getElem? (i := 152) rfl)) rfl
theorem wm1921 : (Jvm.Cond.instanceMethod ({ cls := "FirstComerModel", name := "may", desc := "(II)I" } : Jvm.MethodName)) ∈ jm_tbl := jm_in (tb8 (List.mem_of_getElem? (i := 154) rfl)) rfl
theorem wm1922 : (Jvm.Cond.selects "FirstComerModel" ({ cls := "FirstComerModel", name := "may", desc := "(II)I" } : Jvm.MethodName) ({ cls := "FirstComerModel", name := "may", desc := "(II)I" } : Jvm.MethodName)) ∈ jm_tbl := jm_in (tb8 (List.mem_of_getElem? (i := 155) rfl)) rfl
theorem wm1923 : (Jvm.Cond.code ({ cls := "FirstComerModel", name := "may", desc := "(II)I" } : Jvm.MethodName) prog_14_method_53_code (3 : Nat) (Option.some Jvm.ClassFile.FieldType.int)) ∈ jm_tbl := jm_in (tb8 (List.mem_of_getElem? (i := 156) rfl)) rfl
theorem wm1926 : (Jvm.Cond.instanceMethod ({ cls := "FirstComerModel", name := "mays", desc := "(II)Z" } : Jvm.MethodName)) ∈ jm_tbl := jm_in (tb8 (List.mem_of_getElem? (i := 159) rfl)) rfl
theorem wm1927 : (Jvm.Cond.code ({ cls := "FirstComerModel", name := "mays", desc := "(II)Z" } : Jvm.MethodName) prog_14_method_52_code (3 : Nat) (Option.some Jvm.ClassFile.FieldType.boolean)) ∈ jm_tbl := jm_in (tb8 (List.mem_of_getElem? (i := 160) rfl)) rfl
theorem wm1929 : (Jvm.Cond.instanceMethod ({ cls := "FirstComerModel", name := "order", desc := "(II)I" } : Jvm.MethodName)) ∈ jm_tbl := jm_in (tb8 (List.mem_of_getElem? (i := 162) rfl)) rfl
theorem wm1930 : (Jvm.Cond.selects "FirstComerModel" ({ cls := "FirstComerModel", name := "order", desc := "(II)I" } : Jvm.MethodName) ({ cls := "FirstComerModel", name := "order", desc := "(II)I" } : Jvm.MethodName)) ∈ jm_tbl := jm_in (tb8 (List.mem_of_getElem? (i := 163) rfl)) rfl
theorem wm1931 : (Jvm.Cond.code ({ cls := "FirstComerModel", name := "order", desc := "(II)I" } : Jvm.MethodName) prog_14_method_54_code (6 : Nat) (Option.some Jvm.ClassFile.FieldType.int)) ∈ jm_tbl := jm_in (tb8 (List.mem_of_getElem? (i := 164) rfl)) rfl
theorem wm1933 : (Jvm.Cond.instanceMethod ({ cls := "FirstComerModel", name := "hears", desc := "(III)Z" } : Jvm.MethodName)) ∈ jm_tbl := jm_in (tb8 (List.mem_of_getElem? (i := 166) rfl)) rfl
theorem wm1934 : (Jvm.Cond.selects "FirstComerModel" ({ cls := "FirstComerModel", name := "hears", desc := "(III)Z" } : Jvm.MethodName) ({ cls := "FirstComerModel", name := "hears", desc := "(III)Z" } : Jvm.MethodName)) ∈ jm_tbl := jm_in (tb8 (List.mem_of_getElem? (i := 167) rfl)) rfl
theorem wm1935 : (Jvm.Cond.code ({ cls := "FirstComerModel", name := "hears", desc := "(III)Z" } : Jvm.MethodName) prog_14_method_55_code (4 : Nat) (Option.some Jvm.ClassFile.FieldType.boolean)) ∈ jm_tbl := jm_in (tb8 (List.mem_of_getElem? (i := 168) rfl)) rfl
theorem wm1937 : (Jvm.Cond.instanceMethod ({ cls := "FirstComerModel", name := "till", desc := "(II)I" } : Jvm.MethodName)) ∈ jm_tbl := jm_in (tb8 (List.mem_of_getElem? (i := 170) rfl)) rfl
theorem wm1938 : (Jvm.Cond.selects "FirstComerModel" ({ cls := "FirstComerModel", name := "till", desc := "(II)I" } : Jvm.MethodName) ({ cls := "FirstComerModel", name := "till", desc := "(II)I" } : Jvm.MethodName)) ∈ jm_tbl := jm_in (tb8 (List.mem_of_getElem? (i := 171) rfl)) rfl
theorem wm1939 : (Jvm.Cond.code ({ cls := "FirstComerModel", name := "till", desc := "(II)I" } : Jvm.MethodName) prog_14_method_56_code (3 : Nat) (Option.some Jvm.ClassFile.FieldType.int)) ∈ jm_tbl := jm_in (tb8 (List.mem_of_getElem? (i := 172) rfl)) rfl
theorem wm1941 : (Jvm.Cond.instanceMethod ({ cls := "FirstComerModel", name := "waive", desc := "(II)Z" } : Jvm.MethodName)) ∈ jm_tbl := jm_in (tb8 (List.mem_of_getElem? (i := 174) rfl)) rfl
theorem wm1942 : (Jvm.Cond.selects "FirstComerModel" ({ cls := "FirstComerModel", name := "waive", desc := "(II)Z" } : Jvm.MethodName) ({ cls := "FirstComerModel", name := "waive", desc := "(II)Z" } : Jvm.MethodName)) ∈ jm_tbl := jm_in (tb8 (List.mem_of_getElem? (i := 175) rfl)) rfl
theorem wm1943 : (Jvm.Cond.code ({ cls := "FirstComerModel", name := "waive", desc := "(II)Z" } : Jvm.MethodName) prog_14_method_57_code (3 : Nat) (Option.some Jvm.ClassFile.FieldType.boolean)) ∈ jm_tbl := jm_in (tb8 (List.mem_of_getElem? (i := 176) rfl)) rfl
theorem wm1945 : (Jvm.Cond.instanceMethod ({ cls := "FirstComerModel", name := "truly", desc := "(II)Z" } : Jvm.MethodName)) ∈ jm_tbl := jm_in (tb8 (List.mem_of_getElem? (i := 178) rfl)) rfl
theorem wm1946 : (Jvm.Cond.selects "FirstComerModel" ({ cls := "FirstComerModel", name := "truly", desc := "(II)Z" } : Jvm.MethodName) ({ cls := "FirstComerModel", name := "truly", desc := "(II)Z" } : Jvm.MethodName)) ∈ jm_tbl := jm_in (tb8 (List.mem_of_getElem? (i := 179) rfl)) rfl
theorem wm1947 : (Jvm.Cond.code ({ cls := "FirstComerModel", name := "truly", desc := "(II)Z" } : Jvm.MethodName) prog_14_method_58_code (3 : Nat) (Option.some Jvm.ClassFile.FieldType.boolean)) ∈ jm_tbl := jm_in (tb8 (List.mem_of_getElem? (i := 180) rfl)) rfl
theorem wm1949 : (Jvm.Cond.instanceMethod ({ cls := "FirstComerModel", name := "claim", desc := "(III)I" } : Jvm.MethodName)) ∈ jm_tbl := jm_in (tb8 (List.mem_of_getElem? (i := 182) rfl)) rfl
theorem wm1950 : (Jvm.Cond.selects "FirstComerModel" ({ cls := "FirstComerModel", name := "claim", desc := "(III)I" } : Jvm.MethodName) ({ cls := "FirstComerModel", name := "claim", desc := "(III)I" } : Jvm.MethodName)) ∈ jm_tbl := jm_in (tb8 (List.mem_of_getElem? (i := 183) rfl)) rfl
theorem wm1951 : (Jvm.Cond.code ({ cls := "FirstComerModel", name := "claim", desc := "(III)I" } : Jvm.MethodName) prog_14_method_60_code (6 : Nat) (Option.some Jvm.ClassFile.FieldType.int)) ∈ jm_tbl := jm_in (tb8 (List.mem_of_getElem? (i := 184) rfl)) rfl
theorem wm1954 : (Jvm.Cond.instanceMethod ({ cls := "FirstComerModel", name := "isLate", desc := "(I)Z" } : Jvm.MethodName)) ∈ jm_tbl := jm_in (tb8 (List.mem_of_getElem? (i := 187) rfl)) rfl
theorem wm1955 : (Jvm.Cond.code ({ cls := "FirstComerModel", name := "isLate", desc := "(I)Z" } : Jvm.MethodName) prog_14_method_59_code (2 : Nat) (Option.some Jvm.ClassFile.FieldType.boolean)) ∈ jm_tbl := jm_in (tb8 (List.mem_of_getElem? (i := 188) rfl)) rfl
theorem wm1957 : (Jvm.Cond.instanceMethod ({ cls := "FirstComerModel", name := "parted", desc := "(II)I" } : Jvm.MethodName)) ∈ jm_tbl := jm_in (tb8 (List.mem_of_getElem? (i := 190) rfl)) rfl
theorem wm1958 : (Jvm.Cond.selects "FirstComerModel" ({ cls := "FirstComerModel", name := "parted", desc := "(II)I" } : Jvm.MethodName) ({ cls := "FirstComerModel", name := "parted", desc := "(II)I" } : Jvm.MethodName)) ∈ jm_tbl := jm_in (tb8 (List.mem_of_getElem? (i := 191) rfl)) rfl
theorem wm1959 : (Jvm.Cond.code ({ cls := "FirstComerModel", name := "parted", desc := "(II)I" } : Jvm.MethodName) prog_14_method_61_code (9 : Nat) (Option.some Jvm.ClassFile.FieldType.int)) ∈ jm_tbl := jm_in (tb8 (List.mem_of_getElem? (i := 192) rfl)) rfl
theorem wm1961 : (Jvm.Cond.instanceMethod ({ cls := "FirstComerModel", name := "sly", desc := "(IIII)I" } : Jvm.MethodName)) ∈ jm_tbl := jm_in (tb8 (List.mem_of_getElem? (i := 194) rfl)) rfl
theorem wm1962 : (Jvm.Cond.selects "FirstComerModel" ({ cls := "FirstComerModel", name := "sly", desc := "(IIII)I" } : Jvm.MethodName) ({ cls := "FirstComerModel", name := "sly", desc := "(IIII)I" } : Jvm.MethodName)) ∈ jm_tbl := jm_in (tb8 (List.mem_of_getElem? (i := 195) rfl)) rfl
theorem wm1963 : (Jvm.Cond.code ({ cls := "FirstComerModel", name := "sly", desc := "(IIII)I" } : Jvm.MethodName) prog_14_method_67_code (5 : Nat) (Option.some Jvm.ClassFile.FieldType.int)) ∈ jm_tbl := jm_in (tb8 (List.mem_of_getElem? (i := 196) rfl)) rfl
theorem wm1966 : (Jvm.Cond.instanceMethod ({ cls := "FirstComerModel", name := "isSly", desc := "(IIII)Z" } : Jvm.MethodName)) ∈ jm_tbl := jm_in (tb8 (List.mem_of_getElem? (i := 199) rfl)) rfl
theorem wm1967 : (Jvm.Cond.code ({ cls := "FirstComerModel", name := "isSly", desc := "(IIII)Z" } : Jvm.MethodName) prog_14_method_62_code (5 : Nat) (Option.some Jvm.ClassFile.FieldType.boolean)) ∈ jm_tbl := jm_in (tb8 (List.mem_of_getElem? (i := 200) rfl)) rfl
theorem wm1970 : (Jvm.Cond.instanceMethod ({ cls := "FirstComerModel", name := "seeks", desc := "(IIII)I" } : Jvm.MethodName)) ∈ jm_tbl := jm_in (tb8 (List.mem_of_getElem? (i := 203) rfl)) rfl
theorem wm1971 : (Jvm.Cond.code ({ cls := "FirstComerModel", name := "seeks", desc := "(IIII)I" } : Jvm.MethodName) prog_14_method_66_code (11 : Nat) (Option.some Jvm.ClassFile.FieldType.int)) ∈ jm_tbl := jm_in (tb8 (List.mem_of_getElem? (i := 204) rfl)) rfl
theorem wm1974 : (Jvm.Cond.instanceMethod ({ cls := "FirstComerModel", name := "lies", desc := "(IIII)V" } : Jvm.MethodName)) ∈ jm_tbl := jm_in (tb8 (List.mem_of_getElem? (i := 207) rfl)) rfl
theorem wm1975 : (Jvm.Cond.code ({ cls := "FirstComerModel", name := "lies", desc := "(IIII)V" } : Jvm.MethodName) prog_14_method_63_code (6 : Nat) (Option.none : Option Jvm.ClassFile.FieldType)) ∈ jm_tbl := jm_in (tb8 (List.mem_of_getElem? (i := 208) rfl)) rfl
theorem wm1978 : (Jvm.Cond.instanceMethod ({ cls := "FirstComerModel", name := "steps", desc := "(IIIIII)V" } : Jvm.MethodName)) ∈ jm_tbl := jm_in (tb8 (List.mem_of_getElem? (i := 211) rfl)) rfl
theorem wm1979 : (Jvm.Cond.code ({ cls := "FirstComerModel", name := "steps", desc := "(IIIIII)V" } : Jvm.MethodName) prog_14_method_65_code (12 : Nat) (Option.none : Option Jvm.ClassFile.FieldType)) ∈ jm_tbl := jm_in (tb8 (List.mem_of_getElem? (i := 212) rfl)) rfl
theorem wm1982 : (Jvm.Cond.instanceMethod ({ cls := "FirstComerModel", name := "isUnseen", desc := "(IIIIII)Z" } : Jvm.MethodName)) ∈ jm_tbl := jm_in (tb8 (List.mem_of_getElem? (i := 215) rfl)) rfl
theorem wm1983 : (Jvm.Cond.code ({ cls := "FirstComerModel", name := "isUnseen", desc := "(IIIIII)Z" } : Jvm.MethodName) prog_14_method_64_code (8 : Nat) (Option.some Jvm.ClassFile.FieldType.boolean)) ∈ jm_tbl := jm_in (tb8 (List.mem_of_getElem? (i := 216) rfl)) rfl
theorem wm1985 : (Jvm.Cond.instanceMethod ({ cls := "FirstComerModel", name := "slyRow", desc := "(IIIIII)I" } : Jvm.MethodName)) ∈ jm_tbl := jm_in (tb8 (List.mem_of_getElem? (i := 218) rfl)) rfl
theorem wm1986 : (Jvm.Cond.selects "FirstComerModel" ({ cls := "FirstComerModel", name := "slyRow", desc := "(IIIIII)I" } : Jvm.MethodName) ({ cls := "FirstComerModel", name := "slyRow", desc := "(IIIIII)I" } : Jvm.MethodName)) ∈ jm_tbl := jm_in (tb8 (List.mem_of_getElem? (i := 219) rfl)) rfl
theorem wm1987 : (Jvm.Cond.code ({ cls := "FirstComerModel", name := "slyRow", desc := "(IIIIII)I" } : Jvm.MethodName) prog_14_method_68_code (10 : Nat) (Option.some Jvm.ClassFile.FieldType.int)) ∈ jm_tbl := jm_in (tb8 (List.mem_of_getElem? (i := 220) rfl)) rfl
theorem wm1989 : (Jvm.Cond.instanceMethod ({ cls := "FirstComerModel", name := "far", desc := "(IIII)I" } : Jvm.MethodName)) ∈ jm_tbl := jm_in (tb8 (List.mem_of_getElem? (i := 222) rfl)) rfl
theorem wm1990 : (Jvm.Cond.selects "FirstComerModel" ({ cls := "FirstComerModel", name := "far", desc := "(IIII)I" } : Jvm.MethodName) ({ cls := "FirstComerModel", name := "far", desc := "(IIII)I" } : Jvm.MethodName)) ∈ jm_tbl := jm_in (tb8 (List.mem_of_getElem? (i := 223) rfl)) rfl
theorem wm1991 : (Jvm.Cond.code ({ cls := "FirstComerModel", name := "far", desc := "(IIII)I" } : Jvm.MethodName) prog_14_method_74_code (7 : Nat) (Option.some Jvm.ClassFile.FieldType.int)) ∈ jm_tbl := jm_in (tb8 (List.mem_of_getElem? (i := 224) rfl)) rfl
theorem wm1994 : (Jvm.Cond.instanceMethod ({ cls := "FirstComerModel", name := "goesFar", desc := "(III)I" } : Jvm.MethodName)) ∈ jm_tbl := jm_in (tb8 (List.mem_of_getElem? (i := 227) rfl)) rfl
theorem wm1995 : (Jvm.Cond.code ({ cls := "FirstComerModel", name := "goesFar", desc := "(III)I" } : Jvm.MethodName) prog_14_method_73_code (8 : Nat) (Option.some Jvm.ClassFile.FieldType.int)) ∈ jm_tbl := jm_in (tb8 (List.mem_of_getElem? (i := 228) rfl)) rfl
theorem wm1998 : (Jvm.Cond.instanceMethod ({ cls := "FirstComerModel", name := "whoCares", desc := "()I" } : Jvm.MethodName)) ∈ jm_tbl := jm_in (tb8 (List.mem_of_getElem? (i := 231) rfl)) rfl
theorem wm1999 : (Jvm.Cond.code ({ cls := "FirstComerModel", name := "whoCares", desc := "()I" } : Jvm.MethodName) prog_14_method_71_code (3 : Nat) (Option.some Jvm.ClassFile.FieldType.int)) ∈ jm_tbl := jm_in (tb8 (List.mem_of_getElem? (i := 232) rfl)) rfl
theorem wm2002 : (Jvm.Cond.instanceMethod ({ cls := "FirstComerModel", name := "holderOf", desc := "(I)I" } : Jvm.MethodName)) ∈ jm_tbl := jm_in (tb8 (List.mem_of_getElem? (i := 235) rfl)) rfl
theorem wm2003 : (Jvm.Cond.code ({ cls := "FirstComerModel", name := "holderOf", desc := "(I)I" } : Jvm.MethodName) prog_14_method_70_code (3 : Nat) (Option.some Jvm.ClassFile.FieldType.int)) ∈ jm_tbl := jm_in (tb8 (List.mem_of_getElem? (i := 236) rfl)) rfl
theorem wm2005 : (Jvm.Cond.static ({ cls := "FirstComerModel", name := "bits", desc := "(I)I" } : Jvm.MethodName)) ∈ jm_tbl := jm_in (tb8 (List.mem_of_getElem? (i := 238) rfl)) rfl
theorem wm2006 : (Jvm.Cond.code ({ cls := "FirstComerModel", name := "bits", desc := "(I)I" } : Jvm.MethodName) prog_14_method_69_code (3 : Nat) (Option.some Jvm.ClassFile.FieldType.int)) ∈ jm_tbl := jm_in (tb8 (List.mem_of_getElem? (i := 239) rfl)) rfl
theorem wm2009 : (Jvm.Cond.instanceMethod ({ cls := "FirstComerModel", name := "isGot", desc := "(IIII)Z" } : Jvm.MethodName)) ∈ jm_tbl := jm_in (tb9 (List.mem_of_getElem? (i := 2) rfl)) rfl
theorem wm2010 : (Jvm.Cond.code ({ cls := "FirstComerModel", name := "isGot", desc := "(IIII)Z" } : Jvm.MethodName) prog_14_method_72_code (7 : Nat) (Option.some Jvm.ClassFile.FieldType.boolean)) ∈ jm_tbl := jm_in (tb9 (List.mem_of_getElem? (i := 3) rfl)) rfl
theorem wm2012 : (Jvm.Cond.instanceMethod ({ cls := "FirstComerModel", name := "honest", desc := "(IIIIII)Z" } : Jvm.MethodName)) ∈ jm_tbl := jm_in (tb9 (List.mem_of_getElem? (i := 5) rfl)) rfl
theorem wm2013 : (Jvm.Cond.selects "FirstComerModel" ({ cls := "FirstComerModel", name := "honest", desc := "(IIIIII)Z" } : Jvm.MethodName) ({ cls := "FirstComerModel", name := "honest", desc := "(IIIIII)Z" } : Jvm.MethodName)) ∈ jm_tbl := jm_in (tb9 (List.mem_of_getElem? (i := 6) rfl)) rfl
theorem wm2014 : (Jvm.Cond.code ({ cls := "FirstComerModel", name := "honest", desc := "(IIIIII)Z" } : Jvm.MethodName) prog_14_method_75_code (7 : Nat) (Option.some Jvm.ClassFile.FieldType.boolean)) ∈ jm_tbl := jm_in (tb9 (List.mem_of_getElem? (i := 7) rfl)) rfl
theorem wm2016 : (Jvm.Cond.instanceMethod ({ cls := "FirstComerModel", name := "mended", desc := "(IIIII)I" } : Jvm.MethodName)) ∈ jm_tbl := jm_in (tb9 (List.mem_of_getElem? (i := 9) rfl)) rfl
theorem wm2017 : (Jvm.Cond.selects "FirstComerModel" ({ cls := "FirstComerModel", name := "mended", desc := "(IIIII)I" } : Jvm.MethodName) ({ cls := "FirstComerModel", name := "mended", desc := "(IIIII)I" } : Jvm.MethodName)) ∈ jm_tbl := jm_in (tb9 (List.mem_of_getElem? (i := 10) rfl)) rfl
theorem wm2018 : (Jvm.Cond.code ({ cls := "FirstComerModel", name := "mended", desc := "(IIIII)I" } : Jvm.MethodName) prog_14_method_78_code (9 : Nat) (Option.some Jvm.ClassFile.FieldType.int)) ∈ jm_tbl := jm_in (tb9 (List.mem_of_getElem? (i := 11) rfl)) rfl
theorem wm2021 : (Jvm.Cond.instanceMethod ({ cls := "FirstComerModel", name := "maybes", desc := "()I" } : Jvm.MethodName)) ∈ jm_tbl := jm_in (tb9 (List.mem_of_getElem? (i := 14) rfl)) rfl
theorem wm2022 : (Jvm.Cond.code ({ cls := "FirstComerModel", name := "maybes", desc := "()I" } : Jvm.MethodName) prog_14_method_76_code (3 : Nat) (Option.some Jvm.ClassFile.FieldType.int)) ∈ jm_tbl := jm_in (tb9 (List.mem_of_getElem? (i := 15) rfl)) rfl
theorem wm2025 : (Jvm.Cond.instanceMethod ({ cls := "FirstComerModel", name := "does", desc := "(IIIII)Z" } : Jvm.MethodName)) ∈ jm_tbl := jm_in (tb9 (List.mem_of_getElem? (i := 18) rfl)) rfl
theorem wm2026 : (Jvm.Cond.code ({ cls := "FirstComerModel", name := "does", desc := "(IIIII)Z" } : Jvm.MethodName) prog_14_method_77_code (7 : Nat) (Option.some Jvm.ClassFile.FieldType.boolean)) ∈ jm_tbl := jm_in (tb9 (List.mem_of_getElem? (i := 19) rfl)) rfl
theorem wm2028 : (Jvm.Cond.instanceMethod ({ cls := "FirstComerModel", name := "mark", desc := "(IZ)Z" } : Jvm.MethodName)) ∈ jm_tbl := jm_in (tb9 (List.mem_of_getElem? (i := 21) rfl)) rfl
theorem wm2029 : (Jvm.Cond.selects "FirstComerModel" ({ cls := "FirstComerModel", name := "mark", desc := "(IZ)Z" } : Jvm.MethodName) ({ cls := "FirstComerModel", name := "mark", desc := "(IZ)Z" } : Jvm.MethodName)) ∈ jm_tbl := jm_in (tb9 (List.mem_of_getElem? (i := 22) rfl)) rfl
theorem wm2030 : (Jvm.Cond.code ({ cls := "FirstComerModel", name := "mark", desc := "(IZ)Z" } : Jvm.MethodName) prog_14_method_81_code (3 : Nat) (Option.some Jvm.ClassFile.FieldType.boolean)) ∈ jm_tbl := jm_in (tb9 (List.mem_of_getElem? (i := 23) rfl)) rfl
theorem wm2033 : (Jvm.Cond.instanceMethod ({ cls := "FirstComerModel", name := "takesBack", desc := "(I)V" } : Jvm.MethodName)) ∈ jm_tbl := jm_in (tb9 (List.mem_of_getElem? (i := 26) rfl)) rfl
theorem wm2034 : (Jvm.Cond.code ({ cls := "FirstComerModel", name := "takesBack", desc := "(I)V" } : Jvm.MethodName) prog_14_method_80_code (3 : Nat) (Option.none : Option Jvm.ClassFile.FieldType)) ∈ jm_tbl := jm_in (tb9 (List.mem_of_getElem? (i := 27) rfl)) rfl
theorem wm2037 : (Jvm.Cond.instanceMethod ({ cls := "FirstComerModel", name := "keeps", desc := "(I)V" } : Jvm.MethodName)) ∈ jm_tbl := jm_in (tb9 (List.mem_of_getElem? (i := 30) rfl)) rfl
theorem wm2038 : (Jvm.Cond.code ({ cls := "FirstComerModel", name := "keeps", desc := "(I)V" } : Jvm.MethodName) prog_14_method_79_code (3 : Nat) (Option.none : Option Jvm.ClassFile.FieldType)) ∈ jm_tbl := jm_in (tb9 (List.mem_of_getElem? (i := 31) rfl)) rfl
theorem wm2040 : (Jvm.Cond.instanceMethod ({ cls := "FirstComerModel", name := "count", desc := "(I)I" } : Jvm.MethodName)) ∈ jm_tbl := jm_in (tb9 (List.mem_of_getElem? (i := 33) rfl)) rfl
theorem wm2041 : (Jvm.Cond.selects "FirstComerModel" ({ cls := "FirstComerModel", name := "count", desc := "(I)I" } : Jvm.MethodName) ({ cls := "FirstComerModel", name := "count", desc := "(I)I" } : Jvm.MethodName)) ∈ jm_tbl := jm_in (tb9 (List.mem_of_getElem? (i := 34) rfl)) rfl
theorem wm2042 : (Jvm.Cond.code ({ cls := "FirstComerModel", name := "count", desc := "(I)I" } : Jvm.MethodName) prog_14_method_82_code (4 : Nat) (Option.some Jvm.ClassFile.FieldType.int)) ∈ jm_tbl := jm_in (tb9 (List.mem_of_getElem? (i := 35) rfl)) rfl
theorem wm2043 : (Jvm.Cond.constantLong "FirstComerLaw" (56 : Nat) (4294967295 : Int64)) ∈ jm_tbl := jm_in (tb9 (List.mem_of_getElem? (i := 36) rfl)) rfl
theorem flX11_1 : Cond.methodLink RX11 1 Lib.objectInit ∈ jm_tbl := jm_in (tb1 (List.mem_of_getElem? (i := 29) rfl)) rfl
theorem flX11_7 : Cond.classLink RX11 7 RX9 ∈ jm_tbl := jm_in (tb1 (List.mem_of_getElem? (i := 32) rfl)) rfl
theorem flX11_9 : Cond.methodLinkNest RX11 9 yX9_init "FirstComer" ∈ lw_tbl := (tb1 (List.mem_of_getElem? (i := 34) rfl))
theorem flX11_10 : Cond.fieldLink RX11 10 (TX11 0).1 (TX11 0).2.1 (TX11 0).2.2.1 ∈ jm_tbl := jm_in (tb3 (List.mem_of_getElem? (i := 27) rfl)) rfl
theorem flX11_16 : Cond.classLink RX11 16 RX1 ∈ jm_tbl := jm_in (tb1 (List.mem_of_getElem? (i := 84) rfl)) rfl
theorem flX11_18 : Cond.methodLinkNest RX11 18 yX1_init "FirstComer" ∈ lw_tbl := (tb1 (List.mem_of_getElem? (i := 86) rfl))
theorem flX11_19 : Cond.fieldLink RX11 19 (TX11 1).1 (TX11 1).2.1 (TX11 1).2.2.1 ∈ jm_tbl := jm_in (tb3 (List.mem_of_getElem? (i := 28) rfl)) rfl
theorem flX11_23 : Cond.classLink RX11 23 RX8 ∈ jm_tbl := jm_in (tb1 (List.mem_of_getElem? (i := 107) rfl)) rfl
theorem flX11_25 : Cond.methodLinkNest RX11 25 yX8_init "FirstComer" ∈ lw_tbl := (tb1 (List.mem_of_getElem? (i := 109) rfl))
theorem flX11_26 : Cond.fieldLink RX11 26 (TX11 2).1 (TX11 2).2.1 (TX11 2).2.2.1 ∈ jm_tbl := jm_in (tb3 (List.mem_of_getElem? (i := 29) rfl)) rfl
theorem flX11_30 : Cond.classLink RX11 30 RX0 ∈ jm_tbl := jm_in (tb1 (List.mem_of_getElem? (i := 146) rfl)) rfl
theorem flX11_32 : Cond.methodLinkNest RX11 32 yX0_init "FirstComer" ∈ lw_tbl := (tb1 (List.mem_of_getElem? (i := 148) rfl))
theorem flX11_33 : Cond.fieldLink RX11 33 (TX11 3).1 (TX11 3).2.1 (TX11 3).2.2.1 ∈ jm_tbl := jm_in (tb3 (List.mem_of_getElem? (i := 30) rfl)) rfl
theorem flX11_37 : Cond.classLink RX11 37 RX3 ∈ jm_tbl := jm_in (tb1 (List.mem_of_getElem? (i := 194) rfl)) rfl
theorem flX11_39 : Cond.methodLink RX11 39 yX3_init ∈ jm_tbl := jm_in (tb1 (List.mem_of_getElem? (i := 196) rfl)) rfl
theorem flX11_42 : Cond.fieldLink RX11 42 (TX11 4).1 (TX11 4).2.1 (TX11 4).2.2.1 ∈ jm_tbl := jm_in (tb3 (List.mem_of_getElem? (i := 31) rfl)) rfl
theorem flX11_46 : Cond.classLink RX11 46 RX10 ∈ jm_tbl := jm_in (tb2 (List.mem_of_getElem? (i := 0) rfl)) rfl
theorem flX11_48 : Cond.methodLink RX11 48 yX10_init ∈ jm_tbl := jm_in (tb2 (List.mem_of_getElem? (i := 2) rfl)) rfl
theorem flX11_51 : Cond.fieldLink RX11 51 (TX11 5).1 (TX11 5).2.1 (TX11 5).2.2.1 ∈ jm_tbl := jm_in (tb3 (List.mem_of_getElem? (i := 32) rfl)) rfl
theorem flX11_55 : Cond.classLink RX11 55 RX6 ∈ jm_tbl := jm_in (tb2 (List.mem_of_getElem? (i := 72) rfl)) rfl
theorem flX11_57 : Cond.methodLink RX11 57 yX6_init ∈ jm_tbl := jm_in (tb2 (List.mem_of_getElem? (i := 74) rfl)) rfl
theorem flX11_60 : Cond.fieldLink RX11 60 (TX11 6).1 (TX11 6).2.1 (TX11 6).2.2.1 ∈ jm_tbl := jm_in (tb3 (List.mem_of_getElem? (i := 33) rfl)) rfl
theorem flX11_64 : Cond.classLink RX11 64 RX2 ∈ jm_tbl := jm_in (tb2 (List.mem_of_getElem? (i := 122) rfl)) rfl
theorem flX11_66 : Cond.methodLink RX11 66 yX2_init ∈ jm_tbl := jm_in (tb2 (List.mem_of_getElem? (i := 124) rfl)) rfl
theorem flX11_67 : Cond.fieldLink RX11 67 (TX11 7).1 (TX11 7).2.1 (TX11 7).2.2.1 ∈ jm_tbl := jm_in (tb3 (List.mem_of_getElem? (i := 34) rfl)) rfl
theorem flX11_71 : Cond.classLink RX11 71 RX7 ∈ jm_tbl := jm_in (tb2 (List.mem_of_getElem? (i := 180) rfl)) rfl
theorem flX11_73 : Cond.fieldLink RX11 73 (TX11 8).1 (TX11 8).2.1 (TX11 8).2.2.1 ∈ jm_tbl := jm_in (tb3 (List.mem_of_getElem? (i := 35) rfl)) rfl
theorem flX11_77 : Cond.classLink RX11 77 RX5 ∈ jm_tbl := jm_in (tb2 (List.mem_of_getElem? (i := 182) rfl)) rfl
theorem flX11_79 : Cond.fieldLink RX11 79 (TX11 9).1 (TX11 9).2.1 (TX11 9).2.2.1 ∈ jm_tbl := jm_in (tb3 (List.mem_of_getElem? (i := 36) rfl)) rfl
theorem flX11_83 : Cond.classLink RX11 83 RX4 ∈ jm_tbl := jm_in (tb2 (List.mem_of_getElem? (i := 184) rfl)) rfl
theorem flX11_85 : Cond.methodLinkNest RX11 85 yX4_init "FirstComer" ∈ lw_tbl := (tb2 (List.mem_of_getElem? (i := 186) rfl))
theorem flX11_86 : Cond.fieldLink RX11 86 (TX11 10).1 (TX11 10).2.1 (TX11 10).2.2.1 ∈ jm_tbl := jm_in (tb3 (List.mem_of_getElem? (i := 37) rfl)) rfl
theorem flX11_90 : Cond.fieldLink RX11 90 (TX11 11).1 (TX11 11).2.1 (TX11 11).2.2.1 ∈ jm_tbl := jm_in (tb3 (List.mem_of_getElem? (i := 38) rfl)) rfl
theorem flX11_93 : Cond.fieldLinkNest RX11 93 (TX3 5).1 (TX3 5).2.1 (TX3 5).2.2.1 "FirstComer" ∈ lw_tbl := (tb1 (List.mem_of_getElem? (i := 207) rfl))
theorem flX11_96 : Cond.methodLink RX11 96 yX11_isPerson ∈ jm_tbl := jm_in (tb3 (List.mem_of_getElem? (i := 74) rfl)) rfl
theorem flX11_100 : Cond.methodLink RX11 100 yX9_isTold ∈ jm_tbl := jm_in (tb3 (List.mem_of_getElem? (i := 77) rfl)) rfl
theorem flX11_103 : Cond.fieldLinkNest RX11 103 (TX9 9).1 (TX9 9).2.1 (TX9 9).2.2.1 "FirstComer" ∈ lw_tbl := (tb1 (List.mem_of_getElem? (i := 58) rfl))
theorem flX11_107 : Cond.fieldLinkNest RX11 107 (TX9 5).1 (TX9 5).2.1 (TX9 5).2.2.1 "FirstComer" ∈ lw_tbl := (tb1 (List.mem_of_getElem? (i := 49) rfl))
theorem flX11_110 : Cond.methodLink RX11 110 yX1_add ∈ jm_tbl := jm_in (tb3 (List.mem_of_getElem? (i := 81) rfl)) rfl
theorem flX11_114 : Cond.methodLink RX11 114 yX11_areTwoPeople ∈ jm_tbl := jm_in (tb3 (List.mem_of_getElem? (i := 92) rfl)) rfl
theorem flX11_118 : Cond.methodLink RX11 118 yX1_of ∈ jm_tbl := jm_in (tb3 (List.mem_of_getElem? (i := 95) rfl)) rfl
theorem flX11_122 : Cond.methodLink RX11 122 yX1_move ∈ jm_tbl := jm_in (tb3 (List.mem_of_getElem? (i := 99) rfl)) rfl
theorem flX11_126 : Cond.methodLink RX11 126 yX9_areTwoTold ∈ jm_tbl := jm_in (tb3 (List.mem_of_getElem? (i := 108) rfl)) rfl
theorem flX11_129 : Cond.fieldLinkNest RX11 129 (TX9 0).1 (TX9 0).2.1 (TX9 0).2.2.1 "FirstComer" ∈ lw_tbl := (tb1 (List.mem_of_getElem? (i := 40) rfl))
theorem flX11_133 : Cond.methodLink RX11 133 yX9_layAt ∈ jm_tbl := jm_in (tb3 (List.mem_of_getElem? (i := 113) rfl)) rfl
theorem flX11_136 : Cond.fieldLinkNest RX11 136 (TX9 2).1 (TX9 2).2.1 (TX9 2).2.2.1 "FirstComer" ∈ lw_tbl := (tb1 (List.mem_of_getElem? (i := 43) rfl))
theorem flX11_139 : Cond.methodLink RX11 139 yX9_makeKin ∈ jm_tbl := jm_in (tb3 (List.mem_of_getElem? (i := 125) rfl)) rfl
theorem flX11_142 : Cond.fieldLinkNest RX11 142 (TX9 6).1 (TX9 6).2.1 (TX9 6).2.2.1 "FirstComer" ∈ lw_tbl := (tb1 (List.mem_of_getElem? (i := 51) rfl))
theorem flX11_145 : Cond.methodLink RX11 145 yX11_withBit ∈ jm_tbl := jm_in (tb3 (List.mem_of_getElem? (i := 134) rfl)) rfl
theorem flX11_149 : Cond.fieldLinkNest RX11 149 (TX9 7).1 (TX9 7).2.1 (TX9 7).2.2.1 "FirstComer" ∈ lw_tbl := (tb1 (List.mem_of_getElem? (i := 54) rfl))
theorem flX11_152 : Cond.fieldLinkNest RX11 152 (TX9 8).1 (TX9 8).2.1 (TX9 8).2.2.1 "FirstComer" ∈ lw_tbl := (tb1 (List.mem_of_getElem? (i := 57) rfl))
theorem flX11_155 : Cond.methodLink RX11 155 yX8_write ∈ jm_tbl := jm_in (tb3 (List.mem_of_getElem? (i := 147) rfl)) rfl
theorem flX11_159 : Cond.fieldLinkNest RX11 159 (TX8 1).1 (TX8 1).2.1 (TX8 1).2.2.1 "FirstComer" ∈ lw_tbl := (tb1 (List.mem_of_getElem? (i := 115) rfl))
theorem flX11_162 : Cond.methodLink RX11 162 yX8_read ∈ jm_tbl := jm_in (tb3 (List.mem_of_getElem? (i := 155) rfl)) rfl
theorem flX11_166 : Cond.methodLink RX11 166 yX9_standing ∈ jm_tbl := jm_in (tb4 (List.mem_of_getElem? (i := 55) rfl)) rfl
theorem flX11_170 : Cond.methodLink RX11 170 yX0_tell ∈ jm_tbl := jm_in (tb4 (List.mem_of_getElem? (i := 67) rfl)) rfl
theorem flX11_174 : Cond.methodLink RX11 174 yX0_canBe ∈ jm_tbl := jm_in (tb4 (List.mem_of_getElem? (i := 71) rfl)) rfl
theorem flX11_178 : Cond.fieldLink RX11 178 (TX11 12).1 (TX11 12).2.1 (TX11 12).2.2.1 ∈ jm_tbl := jm_in (tb3 (List.mem_of_getElem? (i := 39) rfl)) rfl
theorem flX11_181 : Cond.methodLinkNest RX11 181 yX7_init "FirstComer" ∈ lw_tbl := (tb4 (List.mem_of_getElem? (i := 86) rfl))
theorem flX11_182 : Cond.methodLink RX11 182 yX3_judgeAll ∈ jm_tbl := jm_in (tb4 (List.mem_of_getElem? (i := 126) rfl)) rfl
theorem flX11_186 : Cond.methodLink RX11 186 yX7_begin ∈ jm_tbl := jm_in (tb4 (List.mem_of_getElem? (i := 161) rfl)) rfl
theorem flX11_190 : Cond.fieldLinkNest RX11 190 (TX3 9).1 (TX3 9).2.1 (TX3 9).2.2.1 "FirstComer" ∈ lw_tbl := (tb1 (List.mem_of_getElem? (i := 218) rfl))
theorem flX11_193 : Cond.methodLink RX11 193 yX11_passingAt ∈ jm_tbl := jm_in (tb4 (List.mem_of_getElem? (i := 196) rfl)) rfl
theorem flX11_204 : Cond.fieldLinkNest RX11 204 (TX7 1).1 (TX7 1).2.1 (TX7 1).2.2.1 "FirstComer" ∈ lw_tbl := (tb4 (List.mem_of_getElem? (i := 95) rfl))
theorem flX11_207 : Cond.methodLink RX11 207 yX7_comerAt ∈ jm_tbl := jm_in (tb4 (List.mem_of_getElem? (i := 204) rfl)) rfl
theorem flX11_210 : Cond.fieldLinkNest RX11 210 (TX7 5).1 (TX7 5).2.1 (TX7 5).2.2.1 "FirstComer" ∈ lw_tbl := (tb4 (List.mem_of_getElem? (i := 103) rfl))
theorem flX11_213 : Cond.fieldLinkNest RX11 213 (TX7 4).1 (TX7 4).2.1 (TX7 4).2.2.1 "FirstComer" ∈ lw_tbl := (tb4 (List.mem_of_getElem? (i := 101) rfl))
theorem flX11_216 : Cond.fieldLinkNest RX11 216 (TX7 2).1 (TX7 2).2.1 (TX7 2).2.2.1 "FirstComer" ∈ lw_tbl := (tb4 (List.mem_of_getElem? (i := 97) rfl))
theorem flX11_219 : Cond.methodLink RX11 219 yX7_isWaived ∈ jm_tbl := jm_in (tb4 (List.mem_of_getElem? (i := 220) rfl)) rfl
theorem flX11_222 : Cond.methodLink RX11 222 yX11_isPrice ∈ jm_tbl := jm_in (tb4 (List.mem_of_getElem? (i := 228) rfl)) rfl
theorem flX11_225 : Cond.fieldLinkNest RX11 225 (TX7 0).1 (TX7 0).2.1 (TX7 0).2.2.1 "FirstComer" ∈ lw_tbl := (tb4 (List.mem_of_getElem? (i := 93) rfl))
theorem flX11_228 : Cond.fieldLinkNest RX11 228 (TX0 4).1 (TX0 4).2.1 (TX0 4).2.2.1 "FirstComer" ∈ lw_tbl := (tb1 (List.mem_of_getElem? (i := 172) rfl))
theorem flX11_231 : Cond.methodLink RX11 231 yX7_isTaken ∈ jm_tbl := jm_in (tb4 (List.mem_of_getElem? (i := 229) rfl)) rfl
theorem flX11_235 : Cond.methodLink RX11 235 yX7_judgeClaim ∈ jm_tbl := jm_in (tb4 (List.mem_of_getElem? (i := 237) rfl)) rfl
theorem flX11_239 : Cond.fieldLinkNest RX11 239 (TX0 0).1 (TX0 0).2.1 (TX0 0).2.2.1 "FirstComer" ∈ lw_tbl := (tb1 (List.mem_of_getElem? (i := 156) rfl))
theorem flX11_242 : Cond.fieldLinkNest RX11 242 (TX0 2).1 (TX0 2).2.1 (TX0 2).2.2.1 "FirstComer" ∈ lw_tbl := (tb1 (List.mem_of_getElem? (i := 164) rfl))
theorem flX11_245 : Cond.fieldLinkNest RX11 245 (TX0 3).1 (TX0 3).2.1 (TX0 3).2.2.1 "FirstComer" ∈ lw_tbl := (tb1 (List.mem_of_getElem? (i := 168) rfl))
theorem flX11_248 : Cond.methodLink RX11 248 yX7_portion ∈ jm_tbl := jm_in (tb5 (List.mem_of_getElem? (i := 20) rfl)) rfl
theorem flX11_251 : Cond.methodLink RX11 251 yX11_canGoRound ∈ jm_tbl := jm_in (tb5 (List.mem_of_getElem? (i := 32) rfl)) rfl
theorem flX11_255 : Cond.methodLink RX11 255 yX10_findRow ∈ jm_tbl := jm_in (tb5 (List.mem_of_getElem? (i := 39) rfl)) rfl
theorem flX11_259 : Cond.methodLink RX11 259 yX10_stepTells ∈ jm_tbl := jm_in (tb5 (List.mem_of_getElem? (i := 108) rfl)) rfl
theorem flX11_262 : Cond.methodLink RX11 262 yX11_isEach ∈ jm_tbl := jm_in (tb5 (List.mem_of_getElem? (i := 36) rfl)) rfl
theorem flX11_265 : Cond.methodLink RX11 265 yX2_find ∈ jm_tbl := jm_in (tb5 (List.mem_of_getElem? (i := 116) rfl)) rfl
theorem flX11_268 : Cond.fieldLinkNest RX11 268 (TX2 8).1 (TX2 8).2.1 (TX2 8).2.2.1 "FirstComer" ∈ lw_tbl := (tb2 (List.mem_of_getElem? (i := 141) rfl))
theorem flX11_271 : Cond.fieldLinkNest RX11 271 (TX2 10).1 (TX2 10).2.1 (TX2 10).2.2.1 "FirstComer" ∈ lw_tbl := (tb2 (List.mem_of_getElem? (i := 144) rfl))
theorem flX11_274 : Cond.methodLink RX11 274 yJ6_bitCount_0f7a4 ∈ jm_tbl := jm_in (tb5 (List.mem_of_getElem? (i := 161) rfl)) rfl
theorem flX11_279 : Cond.methodLink RX11 279 yX0_isSound ∈ jm_tbl := jm_in (tb5 (List.mem_of_getElem? (i := 166) rfl)) rfl
theorem flX11_283 : Cond.fieldLinkNest RX11 283 (TX6 6).1 (TX6 6).2.1 (TX6 6).2.2.1 "FirstComer" ∈ lw_tbl := (tb2 (List.mem_of_getElem? (i := 87) rfl))
theorem flX11_286 : Cond.methodLink RX11 286 yX6_addHonest ∈ jm_tbl := jm_in (tb5 (List.mem_of_getElem? (i := 167) rfl)) rfl
theorem flX11_290 : Cond.methodLink RX11 290 yX6_find ∈ jm_tbl := jm_in (tb5 (List.mem_of_getElem? (i := 177) rfl)) rfl
theorem flX11_292 : Cond.methodLink RX11 292 yX11_goBack ∈ jm_tbl := jm_in (tb5 (List.mem_of_getElem? (i := 213) rfl)) rfl
theorem flX11_295 : Cond.methodLinkNest RX11 295 yX5_init "FirstComer" ∈ lw_tbl := (tb5 (List.mem_of_getElem? (i := 227) rfl))
theorem flX11_296 : Cond.fieldLink RX11 296 (TX11 13).1 (TX11 13).2.1 (TX11 13).2.2.1 ∈ jm_tbl := jm_in (tb3 (List.mem_of_getElem? (i := 40) rfl)) rfl
theorem flX11_299 : Cond.methodLink RX11 299 yX5_lay ∈ jm_tbl := jm_in (tb6 (List.mem_of_getElem? (i := 14) rfl)) rfl
theorem flX11_303 : Cond.methodLink RX11 303 yX11_takenOnes ∈ jm_tbl := jm_in (tb6 (List.mem_of_getElem? (i := 23) rfl)) rfl
theorem flX11_307 : Cond.fieldLinkNest RX11 307 (TX4 12).1 (TX4 12).2.1 (TX4 12).2.2.1 "FirstComer" ∈ lw_tbl := (tb2 (List.mem_of_getElem? (i := 219) rfl))
theorem flX11_310 : Cond.fieldLinkNest RX11 310 (TX4 14).1 (TX4 14).2.1 (TX4 14).2.2.1 "FirstComer" ∈ lw_tbl := (tb2 (List.mem_of_getElem? (i := 224) rfl))
theorem flX11_313 : Cond.fieldLinkNest RX11 313 (TX5 2).1 (TX5 2).2.1 (TX5 2).2.2.1 "FirstComer" ∈ lw_tbl := (tb5 (List.mem_of_getElem? (i := 236) rfl))
theorem flX11_316 : Cond.methodLink RX11 316 yX5_restore ∈ jm_tbl := jm_in (tb5 (List.mem_of_getElem? (i := 217) rfl)) rfl
theorem flX11_320 : Cond.fieldLinkNest RX11 320 (TX5 5).1 (TX5 5).2.1 (TX5 5).2.2.1 "FirstComer" ∈ lw_tbl := (tb6 (List.mem_of_getElem? (i := 0) rfl))
theorem flX0_3 : Cond.methodLink RX0 3 Lib.objectInit ∈ jm_tbl := jm_in (tb1 (List.mem_of_getElem? (i := 151) rfl)) rfl
theorem flX0_9 : Cond.fieldLink RX0 9 (TX0 0).1 (TX0 0).2.1 (TX0 0).2.2.1 ∈ jm_tbl := jm_in (tb1 (List.mem_of_getElem? (i := 152) rfl)) rfl
theorem flX0_15 : Cond.fieldLink RX0 15 (TX0 1).1 (TX0 1).2.1 (TX0 1).2.2.1 ∈ jm_tbl := jm_in (tb1 (List.mem_of_getElem? (i := 157) rfl)) rfl
theorem flX0_18 : Cond.fieldLink RX0 18 (TX0 2).1 (TX0 2).2.1 (TX0 2).2.2.1 ∈ jm_tbl := jm_in (tb1 (List.mem_of_getElem? (i := 161) rfl)) rfl
theorem flX0_21 : Cond.fieldLink RX0 21 (TX0 3).1 (TX0 3).2.1 (TX0 3).2.2.1 ∈ jm_tbl := jm_in (tb1 (List.mem_of_getElem? (i := 165) rfl)) rfl
theorem flX0_24 : Cond.fieldLink RX0 24 (TX0 4).1 (TX0 4).2.1 (TX0 4).2.2.1 ∈ jm_tbl := jm_in (tb1 (List.mem_of_getElem? (i := 169) rfl)) rfl
theorem flX0_27 : Cond.fieldLink RX0 27 (TX0 5).1 (TX0 5).2.1 (TX0 5).2.2.1 ∈ jm_tbl := jm_in (tb1 (List.mem_of_getElem? (i := 173) rfl)) rfl
theorem flX0_30 : Cond.fieldLink RX0 30 (TX0 6).1 (TX0 6).2.1 (TX0 6).2.2.1 ∈ jm_tbl := jm_in (tb1 (List.mem_of_getElem? (i := 176) rfl)) rfl
theorem flX0_33 : Cond.methodLink RX0 33 yX0_tell ∈ jm_tbl := jm_in (tb4 (List.mem_of_getElem? (i := 169) rfl)) rfl
theorem flX0_37 : Cond.methodLink RX0 37 yX9_isTold ∈ jm_tbl := jm_in (tb4 (List.mem_of_getElem? (i := 79) rfl)) rfl
theorem flX0_43 : Cond.methodLinkNest RX0 43 yX11_areTwoPeople "FirstComer" ∈ lw_tbl := (tb4 (List.mem_of_getElem? (i := 80) rfl))
theorem flX0_47 : Cond.methodLinkNest RX0 47 yX11_isPrice "FirstComer" ∈ lw_tbl := (tb4 (List.mem_of_getElem? (i := 81) rfl))
theorem flX0_50 : Cond.methodLink RX0 50 yX0_isSound ∈ jm_tbl := jm_in (tb4 (List.mem_of_getElem? (i := 75) rfl)) rfl
theorem flX0_54 : Cond.methodLink RX0 54 yX1_of ∈ jm_tbl := jm_in (tb4 (List.mem_of_getElem? (i := 84) rfl)) rfl
theorem flX1_3 : Cond.methodLink RX1 3 Lib.objectInit ∈ jm_tbl := jm_in (tb1 (List.mem_of_getElem? (i := 89) rfl)) rfl
theorem flX1_9 : Cond.fieldLink RX1 9 (TX1 0).1 (TX1 0).2.1 (TX1 0).2.2.1 ∈ jm_tbl := jm_in (tb1 (List.mem_of_getElem? (i := 90) rfl)) rfl
theorem flX1_15 : Cond.fieldLink RX1 15 (TX1 1).1 (TX1 1).2.1 (TX1 1).2.2.1 ∈ jm_tbl := jm_in (tb1 (List.mem_of_getElem? (i := 92) rfl)) rfl
theorem flX1_18 : Cond.fieldLink RX1 18 (TX1 2).1 (TX1 2).2.1 (TX1 2).2.2.1 ∈ jm_tbl := jm_in (tb1 (List.mem_of_getElem? (i := 94) rfl)) rfl
theorem flX1_21 : Cond.fieldLink RX1 21 (TX1 3).1 (TX1 3).2.1 (TX1 3).2.2.1 ∈ jm_tbl := jm_in (tb1 (List.mem_of_getElem? (i := 96) rfl)) rfl
theorem flX1_24 : Cond.methodLinkNest RX1 24 yX11_withBit "FirstComer" ∈ lw_tbl := (tb3 (List.mem_of_getElem? (i := 85) rfl))
theorem flX1_28 : Cond.methodLink RX1 28 yX1_add ∈ jm_tbl := jm_in (tb3 (List.mem_of_getElem? (i := 103) rfl)) rfl
theorem flX1_32 : Cond.methodLink RX1 32 arraycopyName ∈ jm_tbl := jm_in (tb5 (List.mem_of_getElem? (i := 52) rfl)) rfl
theorem flX1_38 : Cond.methodLink RX1 38 yX1_of ∈ jm_tbl := jm_in (tb4 (List.mem_of_getElem? (i := 187) rfl)) rfl
theorem flX1_42 : Cond.methodLink RX1 42 yJ6_bitCount_0f7a4 ∈ jm_tbl := jm_in (tb5 (List.mem_of_getElem? (i := 128) rfl)) rfl
theorem flX1_48 : Cond.methodLink RX1 48 yJ6_numberOfTrailingZeros_0f7a4 ∈ jm_tbl := jm_in (tb5 (List.mem_of_getElem? (i := 134) rfl)) rfl
theorem flX2_3 : Cond.methodLink RX2 3 Lib.objectInit ∈ jm_tbl := jm_in (tb2 (List.mem_of_getElem? (i := 127) rfl)) rfl
theorem flX2_9 : Cond.classLink RX2 9 RX1 ∈ jm_tbl := jm_in (tb2 (List.mem_of_getElem? (i := 128) rfl)) rfl
theorem flX2_11 : Cond.methodLinkNest RX2 11 yX1_init "FirstComer" ∈ lw_tbl := (tb2 (List.mem_of_getElem? (i := 129) rfl))
theorem flX2_12 : Cond.fieldLink RX2 12 (TX2 3).1 (TX2 3).2.1 (TX2 3).2.2.1 ∈ jm_tbl := jm_in (tb2 (List.mem_of_getElem? (i := 135) rfl)) rfl
theorem flX2_18 : Cond.classLink RX2 18 RX0 ∈ jm_tbl := jm_in (tb2 (List.mem_of_getElem? (i := 130) rfl)) rfl
theorem flX2_20 : Cond.methodLinkNest RX2 20 yX0_init "FirstComer" ∈ lw_tbl := (tb2 (List.mem_of_getElem? (i := 131) rfl))
theorem flX2_21 : Cond.fieldLink RX2 21 (TX2 4).1 (TX2 4).2.1 (TX2 4).2.2.1 ∈ jm_tbl := jm_in (tb2 (List.mem_of_getElem? (i := 136) rfl)) rfl
theorem flX2_25 : Cond.fieldLink RX2 25 (TX2 5).1 (TX2 5).2.1 (TX2 5).2.2.1 ∈ jm_tbl := jm_in (tb2 (List.mem_of_getElem? (i := 137) rfl)) rfl
theorem flX2_29 : Cond.fieldLink RX2 29 (TX2 6).1 (TX2 6).2.1 (TX2 6).2.2.1 ∈ jm_tbl := jm_in (tb2 (List.mem_of_getElem? (i := 138) rfl)) rfl
theorem flX2_33 : Cond.fieldLink RX2 33 (TX2 14).1 (TX2 14).2.1 (TX2 14).2.2.1 ∈ jm_tbl := jm_in (tb2 (List.mem_of_getElem? (i := 148) rfl)) rfl
theorem flX2_37 : Cond.fieldLink RX2 37 (TX2 0).1 (TX2 0).2.1 (TX2 0).2.2.1 ∈ jm_tbl := jm_in (tb2 (List.mem_of_getElem? (i := 132) rfl)) rfl
theorem flX2_41 : Cond.fieldLink RX2 41 (TX2 1).1 (TX2 1).2.1 (TX2 1).2.2.1 ∈ jm_tbl := jm_in (tb2 (List.mem_of_getElem? (i := 133) rfl)) rfl
theorem flX2_44 : Cond.fieldLink RX2 44 (TX2 2).1 (TX2 2).2.1 (TX2 2).2.2.1 ∈ jm_tbl := jm_in (tb2 (List.mem_of_getElem? (i := 134) rfl)) rfl
theorem flX2_48 : Cond.fieldLink RX2 48 (TX2 11).1 (TX2 11).2.1 (TX2 11).2.2.1 ∈ jm_tbl := jm_in (tb2 (List.mem_of_getElem? (i := 145) rfl)) rfl
theorem flX2_51 : Cond.fieldLink RX2 51 (TX2 12).1 (TX2 12).2.1 (TX2 12).2.2.1 ∈ jm_tbl := jm_in (tb2 (List.mem_of_getElem? (i := 146) rfl)) rfl
theorem flX2_54 : Cond.fieldLink RX2 54 (TX2 13).1 (TX2 13).2.1 (TX2 13).2.2.1 ∈ jm_tbl := jm_in (tb2 (List.mem_of_getElem? (i := 147) rfl)) rfl
theorem flX2_57 : Cond.fieldLinkNest RX2 57 (TX9 9).1 (TX9 9).2.1 (TX9 9).2.2.1 "FirstComer" ∈ lw_tbl := (tb1 (List.mem_of_getElem? (i := 59) rfl))
theorem flX2_62 : Cond.methodLink RX2 62 yX2_begin ∈ jm_tbl := jm_in (tb5 (List.mem_of_getElem? (i := 120) rfl)) rfl
theorem flX2_65 : Cond.methodLink RX2 65 yX2_search ∈ jm_tbl := jm_in (tb5 (List.mem_of_getElem? (i := 139) rfl)) rfl
theorem flX2_68 : Cond.fieldLink RX2 68 (TX2 8).1 (TX2 8).2.1 (TX2 8).2.2.1 ∈ jm_tbl := jm_in (tb2 (List.mem_of_getElem? (i := 140) rfl)) rfl
theorem flX2_71 : Cond.fieldLink RX2 71 (TX2 9).1 (TX2 9).2.1 (TX2 9).2.2.1 ∈ jm_tbl := jm_in (tb2 (List.mem_of_getElem? (i := 142) rfl)) rfl
theorem flX2_74 : Cond.methodLink RX2 74 yX1_onlyHolder ∈ jm_tbl := jm_in (tb5 (List.mem_of_getElem? (i := 124) rfl)) rfl
theorem flX2_78 : Cond.methodLink RX2 78 yX1_copyAll ∈ jm_tbl := jm_in (tb5 (List.mem_of_getElem? (i := 138) rfl)) rfl
theorem flX2_82 : Cond.fieldLink RX2 82 (TX2 7).1 (TX2 7).2.1 (TX2 7).2.2.1 ∈ jm_tbl := jm_in (tb2 (List.mem_of_getElem? (i := 139) rfl)) rfl
theorem flX2_85 : Cond.fieldLink RX2 85 (TX2 10).1 (TX2 10).2.1 (TX2 10).2.2.1 ∈ jm_tbl := jm_in (tb2 (List.mem_of_getElem? (i := 143) rfl)) rfl
theorem flX2_88 : Cond.methodLink RX2 88 yJ6_bitCount_0f7a4 ∈ jm_tbl := jm_in (tb5 (List.mem_of_getElem? (i := 143) rfl)) rfl
theorem flX2_93 : Cond.methodLink RX2 93 yX2_comesAbout ∈ jm_tbl := jm_in (tb5 (List.mem_of_getElem? (i := 144) rfl)) rfl
theorem flX2_97 : Cond.methodLink RX2 97 yX2_place ∈ jm_tbl := jm_in (tb5 (List.mem_of_getElem? (i := 148) rfl)) rfl
theorem flX2_101 : Cond.methodLink RX2 101 yX2_sells ∈ jm_tbl := jm_in (tb5 (List.mem_of_getElem? (i := 153) rfl)) rfl
theorem flX2_104 : Cond.methodLink RX2 104 yX1_move ∈ jm_tbl := jm_in (tb5 (List.mem_of_getElem? (i := 152) rfl)) rfl
theorem flX2_108 : Cond.methodLink RX2 108 yX3_settle ∈ jm_tbl := jm_in (tb5 (List.mem_of_getElem? (i := 157) rfl)) rfl
theorem flX2_114 : Cond.methodLink RX2 114 yX0_tellEach ∈ jm_tbl := jm_in (tb5 (List.mem_of_getElem? (i := 158) rfl)) rfl
theorem flX2_118 : Cond.methodLink RX2 118 yX3_ask ∈ jm_tbl := jm_in (tb5 (List.mem_of_getElem? (i := 159) rfl)) rfl
theorem flX2_122 : Cond.fieldLinkNest RX2 122 (TX9 7).1 (TX9 7).2.1 (TX9 7).2.2.1 "FirstComer" ∈ lw_tbl := (tb1 (List.mem_of_getElem? (i := 53) rfl))
theorem flX2_125 : Cond.methodLink RX2 125 yX3_openSets ∈ jm_tbl := jm_in (tb5 (List.mem_of_getElem? (i := 160) rfl)) rfl
theorem flX3_3 : Cond.methodLink RX3 3 Lib.objectInit ∈ jm_tbl := jm_in (tb1 (List.mem_of_getElem? (i := 199) rfl)) rfl
theorem flX3_9 : Cond.fieldLink RX3 9 (TX3 1).1 (TX3 1).2.1 (TX3 1).2.2.1 ∈ jm_tbl := jm_in (tb1 (List.mem_of_getElem? (i := 202) rfl)) rfl
theorem flX3_15 : Cond.fieldLink RX3 15 (TX3 2).1 (TX3 2).2.1 (TX3 2).2.2.1 ∈ jm_tbl := jm_in (tb1 (List.mem_of_getElem? (i := 203) rfl)) rfl
theorem flX3_18 : Cond.fieldLink RX3 18 (TX3 3).1 (TX3 3).2.1 (TX3 3).2.2.1 ∈ jm_tbl := jm_in (tb1 (List.mem_of_getElem? (i := 204) rfl)) rfl
theorem flX3_21 : Cond.fieldLink RX3 21 (TX3 4).1 (TX3 4).2.1 (TX3 4).2.2.1 ∈ jm_tbl := jm_in (tb1 (List.mem_of_getElem? (i := 205) rfl)) rfl
theorem flX3_24 : Cond.fieldLink RX3 24 (TX3 0).1 (TX3 0).2.1 (TX3 0).2.2.1 ∈ jm_tbl := jm_in (tb1 (List.mem_of_getElem? (i := 200) rfl)) rfl
theorem flX3_28 : Cond.fieldLink RX3 28 (TX3 6).1 (TX3 6).2.1 (TX3 6).2.2.1 ∈ jm_tbl := jm_in (tb1 (List.mem_of_getElem? (i := 211) rfl)) rfl
theorem flX3_32 : Cond.methodLink RX3 32 yX9_standing ∈ jm_tbl := jm_in (tb4 (List.mem_of_getElem? (i := 134) rfl)) rfl
theorem flX3_37 : Cond.fieldLink RX3 37 (TX3 7).1 (TX3 7).2.1 (TX3 7).2.2.1 ∈ jm_tbl := jm_in (tb1 (List.mem_of_getElem? (i := 213) rfl)) rfl
theorem flX3_41 : Cond.fieldLinkNest RX3 41 (TX0 3).1 (TX0 3).2.1 (TX0 3).2.2.1 "FirstComer" ∈ lw_tbl := (tb1 (List.mem_of_getElem? (i := 166) rfl))
theorem flX3_47 : Cond.fieldLinkNest RX3 47 (TX0 5).1 (TX0 5).2.1 (TX0 5).2.2.1 "FirstComer" ∈ lw_tbl := (tb1 (List.mem_of_getElem? (i := 174) rfl))
theorem flX3_50 : Cond.fieldLinkNest RX3 50 (TX0 6).1 (TX0 6).2.1 (TX0 6).2.2.1 "FirstComer" ∈ lw_tbl := (tb1 (List.mem_of_getElem? (i := 178) rfl))
theorem flX3_53 : Cond.fieldLinkNest RX3 53 (TX0 0).1 (TX0 0).2.1 (TX0 0).2.2.1 "FirstComer" ∈ lw_tbl := (tb1 (List.mem_of_getElem? (i := 153) rfl))
theorem flX3_56 : Cond.fieldLinkNest RX3 56 (TX0 1).1 (TX0 1).2.1 (TX0 1).2.2.1 "FirstComer" ∈ lw_tbl := (tb1 (List.mem_of_getElem? (i := 158) rfl))
theorem flX3_59 : Cond.methodLink RX3 59 yX1_of ∈ jm_tbl := jm_in (tb4 (List.mem_of_getElem? (i := 139) rfl)) rfl
theorem flX3_65 : Cond.fieldLinkNest RX3 65 (TX1 3).1 (TX1 3).2.1 (TX1 3).2.2.1 "FirstComer" ∈ lw_tbl := (tb1 (List.mem_of_getElem? (i := 97) rfl))
theorem flX3_68 : Cond.fieldLinkNest RX3 68 (TX1 2).1 (TX1 2).2.1 (TX1 2).2.2.1 "FirstComer" ∈ lw_tbl := (tb1 (List.mem_of_getElem? (i := 95) rfl))
theorem flX3_71 : Cond.fieldLinkNest RX3 71 (TX0 2).1 (TX0 2).2.1 (TX0 2).2.2.1 "FirstComer" ∈ lw_tbl := (tb1 (List.mem_of_getElem? (i := 163) rfl))
theorem flX3_74 : Cond.fieldLinkNest RX3 74 (TX0 4).1 (TX0 4).2.1 (TX0 4).2.2.1 "FirstComer" ∈ lw_tbl := (tb1 (List.mem_of_getElem? (i := 170) rfl))
theorem flX3_77 : Cond.fieldLinkNest RX3 77 (TX9 8).1 (TX9 8).2.1 (TX9 8).2.2.1 "FirstComer" ∈ lw_tbl := (tb1 (List.mem_of_getElem? (i := 56) rfl))
theorem flX3_80 : Cond.fieldLinkNest RX3 80 (TX9 6).1 (TX9 6).2.1 (TX9 6).2.2.1 "FirstComer" ∈ lw_tbl := (tb1 (List.mem_of_getElem? (i := 50) rfl))
theorem flX3_83 : Cond.fieldLinkNest RX3 83 (TX1 0).1 (TX1 0).2.1 (TX1 0).2.2.1 "FirstComer" ∈ lw_tbl := (tb1 (List.mem_of_getElem? (i := 91) rfl))
theorem flX3_86 : Cond.fieldLinkNest RX3 86 (TX9 3).1 (TX9 3).2.1 (TX9 3).2.2.1 "FirstComer" ∈ lw_tbl := (tb1 (List.mem_of_getElem? (i := 45) rfl))
theorem flX3_89 : Cond.fieldLink RX3 89 (TX3 5).1 (TX3 5).2.1 (TX3 5).2.2.1 ∈ jm_tbl := jm_in (tb1 (List.mem_of_getElem? (i := 210) rfl)) rfl
theorem flX3_93 : Cond.fieldLinkNest RX3 93 (TX4 6).1 (TX4 6).2.1 (TX4 6).2.2.1 "FirstComer" ∈ lw_tbl := (tb2 (List.mem_of_getElem? (i := 207) rfl))
theorem flX3_98 : Cond.fieldLinkNest RX3 98 (TX4 7).1 (TX4 7).2.1 (TX4 7).2.2.1 "FirstComer" ∈ lw_tbl := (tb2 (List.mem_of_getElem? (i := 209) rfl))
theorem flX3_101 : Cond.fieldLinkNest RX3 101 (TX4 8).1 (TX4 8).2.1 (TX4 8).2.2.1 "FirstComer" ∈ lw_tbl := (tb2 (List.mem_of_getElem? (i := 211) rfl))
theorem flX3_105 : Cond.methodLink RX3 105 yX3_value ∈ jm_tbl := jm_in (tb4 (List.mem_of_getElem? (i := 145) rfl)) rfl
theorem flX3_108 : Cond.methodLink RX3 108 yX3_askAbout ∈ jm_tbl := jm_in (tb4 (List.mem_of_getElem? (i := 149) rfl)) rfl
theorem flX3_112 : Cond.fieldLinkNest RX3 112 (TX4 9).1 (TX4 9).2.1 (TX4 9).2.2.1 "FirstComer" ∈ lw_tbl := (tb2 (List.mem_of_getElem? (i := 213) rfl))
theorem flX3_115 : Cond.methodLink RX3 115 yX3_settle ∈ jm_tbl := jm_in (tb4 (List.mem_of_getElem? (i := 130) rfl)) rfl
theorem flX3_119 : Cond.methodLink RX3 119 yX3_ask ∈ jm_tbl := jm_in (tb4 (List.mem_of_getElem? (i := 135) rfl)) rfl
theorem flX3_123 : Cond.fieldLink RX3 123 (TX3 8).1 (TX3 8).2.1 (TX3 8).2.2.1 ∈ jm_tbl := jm_in (tb1 (List.mem_of_getElem? (i := 215) rfl)) rfl
theorem flX3_127 : Cond.fieldLinkNest RX3 127 (TX4 11).1 (TX4 11).2.1 (TX4 11).2.2.1 "FirstComer" ∈ lw_tbl := (tb2 (List.mem_of_getElem? (i := 216) rfl))
theorem flX3_130 : Cond.fieldLinkNest RX3 130 (TX4 0).1 (TX4 0).2.1 (TX4 0).2.2.1 "FirstComer" ∈ lw_tbl := (tb2 (List.mem_of_getElem? (i := 191) rfl))
theorem flX3_133 : Cond.fieldLinkNest RX3 133 (TX4 1).1 (TX4 1).2.1 (TX4 1).2.2.1 "FirstComer" ∈ lw_tbl := (tb2 (List.mem_of_getElem? (i := 193) rfl))
theorem flX3_139 : Cond.methodLink RX3 139 yX3_holdsForOne ∈ jm_tbl := jm_in (tb4 (List.mem_of_getElem? (i := 141) rfl)) rfl
theorem flX3_143 : Cond.methodLink RX3 143 yX3_lineFor ∈ jm_tbl := jm_in (tb4 (List.mem_of_getElem? (i := 153) rfl)) rfl
theorem flX3_147 : Cond.fieldLink RX3 147 (TX3 9).1 (TX3 9).2.1 (TX3 9).2.2.1 ∈ jm_tbl := jm_in (tb1 (List.mem_of_getElem? (i := 217) rfl)) rfl
theorem flX3_150 : Cond.fieldLinkNest RX3 150 (TX4 2).1 (TX4 2).2.1 (TX4 2).2.2.1 "FirstComer" ∈ lw_tbl := (tb2 (List.mem_of_getElem? (i := 196) rfl))
theorem flX3_153 : Cond.methodLink RX3 153 yX4_isFirstOn ∈ jm_tbl := jm_in (tb4 (List.mem_of_getElem? (i := 157) rfl)) rfl
theorem flX3_156 : Cond.fieldLinkNest RX3 156 (TX4 3).1 (TX4 3).2.1 (TX4 3).2.2.1 "FirstComer" ∈ lw_tbl := (tb2 (List.mem_of_getElem? (i := 199) rfl))
theorem flX4_3 : Cond.methodLink RX4 3 Lib.objectInit ∈ jm_tbl := jm_in (tb2 (List.mem_of_getElem? (i := 189) rfl)) rfl
theorem flX4_9 : Cond.fieldLink RX4 9 (TX4 0).1 (TX4 0).2.1 (TX4 0).2.2.1 ∈ jm_tbl := jm_in (tb2 (List.mem_of_getElem? (i := 190) rfl)) rfl
theorem flX4_15 : Cond.fieldLink RX4 15 (TX4 1).1 (TX4 1).2.1 (TX4 1).2.2.1 ∈ jm_tbl := jm_in (tb2 (List.mem_of_getElem? (i := 192) rfl)) rfl
theorem flX4_19 : Cond.fieldLink RX4 19 (TX4 2).1 (TX4 2).2.1 (TX4 2).2.2.1 ∈ jm_tbl := jm_in (tb2 (List.mem_of_getElem? (i := 194) rfl)) rfl
theorem flX4_23 : Cond.fieldLink RX4 23 (TX4 3).1 (TX4 3).2.1 (TX4 3).2.2.1 ∈ jm_tbl := jm_in (tb2 (List.mem_of_getElem? (i := 197) rfl)) rfl
theorem flX4_26 : Cond.fieldLink RX4 26 (TX4 4).1 (TX4 4).2.1 (TX4 4).2.2.1 ∈ jm_tbl := jm_in (tb2 (List.mem_of_getElem? (i := 201) rfl)) rfl
theorem flX4_29 : Cond.fieldLink RX4 29 (TX4 5).1 (TX4 5).2.1 (TX4 5).2.2.1 ∈ jm_tbl := jm_in (tb2 (List.mem_of_getElem? (i := 203) rfl)) rfl
theorem flX4_32 : Cond.fieldLink RX4 32 (TX4 6).1 (TX4 6).2.1 (TX4 6).2.2.1 ∈ jm_tbl := jm_in (tb2 (List.mem_of_getElem? (i := 206) rfl)) rfl
theorem flX4_35 : Cond.fieldLink RX4 35 (TX4 7).1 (TX4 7).2.1 (TX4 7).2.2.1 ∈ jm_tbl := jm_in (tb2 (List.mem_of_getElem? (i := 208) rfl)) rfl
theorem flX4_38 : Cond.fieldLink RX4 38 (TX4 8).1 (TX4 8).2.1 (TX4 8).2.2.1 ∈ jm_tbl := jm_in (tb2 (List.mem_of_getElem? (i := 210) rfl)) rfl
theorem flX4_41 : Cond.fieldLink RX4 41 (TX4 9).1 (TX4 9).2.1 (TX4 9).2.2.1 ∈ jm_tbl := jm_in (tb2 (List.mem_of_getElem? (i := 212) rfl)) rfl
theorem flX4_44 : Cond.fieldLink RX4 44 (TX4 10).1 (TX4 10).2.1 (TX4 10).2.2.1 ∈ jm_tbl := jm_in (tb2 (List.mem_of_getElem? (i := 214) rfl)) rfl
theorem flX4_48 : Cond.fieldLink RX4 48 (TX4 11).1 (TX4 11).2.1 (TX4 11).2.2.1 ∈ jm_tbl := jm_in (tb2 (List.mem_of_getElem? (i := 215) rfl)) rfl
theorem flX4_51 : Cond.fieldLink RX4 51 (TX4 12).1 (TX4 12).2.1 (TX4 12).2.2.1 ∈ jm_tbl := jm_in (tb2 (List.mem_of_getElem? (i := 217) rfl)) rfl
theorem flX4_54 : Cond.fieldLink RX4 54 (TX4 13).1 (TX4 13).2.1 (TX4 13).2.2.1 ∈ jm_tbl := jm_in (tb2 (List.mem_of_getElem? (i := 220) rfl)) rfl
theorem flX4_57 : Cond.fieldLink RX4 57 (TX4 14).1 (TX4 14).2.1 (TX4 14).2.2.1 ∈ jm_tbl := jm_in (tb2 (List.mem_of_getElem? (i := 221) rfl)) rfl
theorem flX4_60 : Cond.fieldLink RX4 60 (TX4 15).1 (TX4 15).2.1 (TX4 15).2.2.1 ∈ jm_tbl := jm_in (tb2 (List.mem_of_getElem? (i := 225) rfl)) rfl
theorem flX4_64 : Cond.fieldLink RX4 64 (TX4 16).1 (TX4 16).2.1 (TX4 16).2.2.1 ∈ jm_tbl := jm_in (tb2 (List.mem_of_getElem? (i := 228) rfl)) rfl
theorem flX4_67 : Cond.fieldLinkNest RX4 67 "FirstComer" "SETS_WITH" "[J" "FirstComer" ∈ lw_tbl := (tb4 (List.mem_of_getElem? (i := 1) rfl))
theorem flX5_3 : Cond.methodLink RX5 3 Lib.objectInit ∈ jm_tbl := jm_in (tb5 (List.mem_of_getElem? (i := 230) rfl)) rfl
theorem flX5_9 : Cond.classLink RX5 9 RX1 ∈ jm_tbl := jm_in (tb5 (List.mem_of_getElem? (i := 231) rfl)) rfl
theorem flX5_11 : Cond.methodLinkNest RX5 11 yX1_init "FirstComer" ∈ lw_tbl := (tb5 (List.mem_of_getElem? (i := 232) rfl))
theorem flX5_12 : Cond.fieldLink RX5 12 (TX5 0).1 (TX5 0).2.1 (TX5 0).2.2.1 ∈ jm_tbl := jm_in (tb5 (List.mem_of_getElem? (i := 233) rfl)) rfl
theorem flX5_18 : Cond.fieldLink RX5 18 (TX5 1).1 (TX5 1).2.1 (TX5 1).2.2.1 ∈ jm_tbl := jm_in (tb5 (List.mem_of_getElem? (i := 234) rfl)) rfl
theorem flX5_22 : Cond.fieldLink RX5 22 (TX5 2).1 (TX5 2).2.1 (TX5 2).2.2.1 ∈ jm_tbl := jm_in (tb5 (List.mem_of_getElem? (i := 235) rfl)) rfl
theorem flX5_26 : Cond.fieldLinkNest RX5 26 (TX9 5).1 (TX9 5).2.1 (TX9 5).2.2.1 "FirstComer" ∈ lw_tbl := (tb1 (List.mem_of_getElem? (i := 47) rfl))
theorem flX5_31 : Cond.fieldLink RX5 31 (TX5 3).1 (TX5 3).2.1 (TX5 3).2.2.1 ∈ jm_tbl := jm_in (tb5 (List.mem_of_getElem? (i := 237) rfl)) rfl
theorem flX5_32 : Cond.fieldLinkNest RX5 32 (TX9 8).1 (TX9 8).2.1 (TX9 8).2.2.1 "FirstComer" ∈ lw_tbl := (tb1 (List.mem_of_getElem? (i := 55) rfl))
theorem flX5_35 : Cond.fieldLink RX5 35 (TX5 4).1 (TX5 4).2.1 (TX5 4).2.2.1 ∈ jm_tbl := jm_in (tb5 (List.mem_of_getElem? (i := 238) rfl)) rfl
theorem flX5_36 : Cond.fieldLink RX5 36 (TX5 5).1 (TX5 5).2.1 (TX5 5).2.2.1 ∈ jm_tbl := jm_in (tb5 (List.mem_of_getElem? (i := 239) rfl)) rfl
theorem flX5_39 : Cond.methodLink RX5 39 yX1_copyAll ∈ jm_tbl := jm_in (tb6 (List.mem_of_getElem? (i := 18) rfl)) rfl
theorem flX5_43 : Cond.fieldLinkNest RX5 43 (TX7 4).1 (TX7 4).2.1 (TX7 4).2.2.1 "FirstComer" ∈ lw_tbl := (tb4 (List.mem_of_getElem? (i := 100) rfl))
theorem flX5_48 : Cond.methodLink RX5 48 arraycopyName ∈ jm_tbl := jm_in (tb5 (List.mem_of_getElem? (i := 225) rfl)) rfl
theorem flX5_54 : Cond.methodLink RX5 54 yX1_copyParcel ∈ jm_tbl := jm_in (tb5 (List.mem_of_getElem? (i := 221) rfl)) rfl
theorem flX6_3 : Cond.methodLink RX6 3 Lib.objectInit ∈ jm_tbl := jm_in (tb2 (List.mem_of_getElem? (i := 77) rfl)) rfl
theorem flX6_9 : Cond.classLink RX6 9 RX0 ∈ jm_tbl := jm_in (tb2 (List.mem_of_getElem? (i := 78) rfl)) rfl
theorem flX6_11 : Cond.fieldLink RX6 11 (TX6 4).1 (TX6 4).2.1 (TX6 4).2.2.1 ∈ jm_tbl := jm_in (tb2 (List.mem_of_getElem? (i := 84) rfl)) rfl
theorem flX6_17 : Cond.fieldLink RX6 17 (TX6 5).1 (TX6 5).2.1 (TX6 5).2.2.1 ∈ jm_tbl := jm_in (tb2 (List.mem_of_getElem? (i := 85) rfl)) rfl
theorem flX6_21 : Cond.fieldLink RX6 21 (TX6 12).1 (TX6 12).2.1 (TX6 12).2.2.1 ∈ jm_tbl := jm_in (tb2 (List.mem_of_getElem? (i := 93) rfl)) rfl
theorem flX6_25 : Cond.fieldLink RX6 25 (TX6 0).1 (TX6 0).2.1 (TX6 0).2.2.1 ∈ jm_tbl := jm_in (tb2 (List.mem_of_getElem? (i := 80) rfl)) rfl
theorem flX6_29 : Cond.fieldLink RX6 29 (TX6 1).1 (TX6 1).2.1 (TX6 1).2.2.1 ∈ jm_tbl := jm_in (tb2 (List.mem_of_getElem? (i := 81) rfl)) rfl
theorem flX6_33 : Cond.fieldLink RX6 33 (TX6 2).1 (TX6 2).2.1 (TX6 2).2.2.1 ∈ jm_tbl := jm_in (tb2 (List.mem_of_getElem? (i := 82) rfl)) rfl
theorem flX6_37 : Cond.fieldLink RX6 37 (TX6 3).1 (TX6 3).2.1 (TX6 3).2.2.1 ∈ jm_tbl := jm_in (tb2 (List.mem_of_getElem? (i := 83) rfl)) rfl
theorem flX6_41 : Cond.fieldLink RX6 41 (TX6 6).1 (TX6 6).2.1 (TX6 6).2.2.1 ∈ jm_tbl := jm_in (tb2 (List.mem_of_getElem? (i := 86) rfl)) rfl
theorem flX6_44 : Cond.methodLinkNest RX6 44 yX0_init "FirstComer" ∈ lw_tbl := (tb5 (List.mem_of_getElem? (i := 171) rfl))
theorem flX6_45 : Cond.methodLink RX6 45 yX0_copyAll ∈ jm_tbl := jm_in (tb5 (List.mem_of_getElem? (i := 172) rfl)) rfl
theorem flX6_49 : Cond.fieldLink RX6 49 (TX6 7).1 (TX6 7).2.1 (TX6 7).2.2.1 ∈ jm_tbl := jm_in (tb2 (List.mem_of_getElem? (i := 88) rfl)) rfl
theorem flX6_52 : Cond.fieldLink RX6 52 (TX6 8).1 (TX6 8).2.1 (TX6 8).2.2.1 ∈ jm_tbl := jm_in (tb2 (List.mem_of_getElem? (i := 89) rfl)) rfl
theorem flX6_55 : Cond.fieldLink RX6 55 (TX6 9).1 (TX6 9).2.1 (TX6 9).2.2.1 ∈ jm_tbl := jm_in (tb2 (List.mem_of_getElem? (i := 90) rfl)) rfl
theorem flX6_58 : Cond.fieldLink RX6 58 (TX6 10).1 (TX6 10).2.1 (TX6 10).2.2.1 ∈ jm_tbl := jm_in (tb2 (List.mem_of_getElem? (i := 91) rfl)) rfl
theorem flX6_61 : Cond.fieldLinkNest RX6 61 (TX9 9).1 (TX9 9).2.1 (TX9 9).2.2.1 "FirstComer" ∈ lw_tbl := (tb1 (List.mem_of_getElem? (i := 60) rfl))
theorem flX6_66 : Cond.methodLink RX6 66 yX6_honestSets ∈ jm_tbl := jm_in (tb5 (List.mem_of_getElem? (i := 181) rfl)) rfl
theorem flX6_70 : Cond.methodLink RX6 70 yX6_slySets ∈ jm_tbl := jm_in (tb5 (List.mem_of_getElem? (i := 191) rfl)) rfl
theorem flX6_76 : Cond.methodLink RX6 76 yX6_leastOf ∈ jm_tbl := jm_in (tb5 (List.mem_of_getElem? (i := 205) rfl)) rfl
theorem flX6_80 : Cond.fieldLink RX6 80 (TX6 11).1 (TX6 11).2.1 (TX6 11).2.2.1 ∈ jm_tbl := jm_in (tb2 (List.mem_of_getElem? (i := 92) rfl)) rfl
theorem flX6_83 : Cond.fieldLinkNest RX6 83 (TX3 5).1 (TX3 5).2.1 (TX3 5).2.2.1 "FirstComer" ∈ lw_tbl := (tb1 (List.mem_of_getElem? (i := 209) rfl))
theorem flX6_89 : Cond.fieldLinkNest RX6 89 (TX4 14).1 (TX4 14).2.1 (TX4 14).2.2.1 "FirstComer" ∈ lw_tbl := (tb2 (List.mem_of_getElem? (i := 223) rfl))
theorem flX6_94 : Cond.methodLink RX6 94 yX0_canBe ∈ jm_tbl := jm_in (tb5 (List.mem_of_getElem? (i := 186) rfl)) rfl
theorem flX6_98 : Cond.fieldLinkNest RX6 98 (TX0 0).1 (TX0 0).2.1 (TX0 0).2.2.1 "FirstComer" ∈ lw_tbl := (tb1 (List.mem_of_getElem? (i := 155) rfl))
theorem flX6_99 : Cond.fieldLinkNest RX6 99 (TX0 1).1 (TX0 1).2.1 (TX0 1).2.2.1 "FirstComer" ∈ lw_tbl := (tb1 (List.mem_of_getElem? (i := 160) rfl))
theorem flX6_102 : Cond.methodLink RX6 102 yX3_settle ∈ jm_tbl := jm_in (tb5 (List.mem_of_getElem? (i := 187) rfl)) rfl
theorem flX6_106 : Cond.methodLink RX6 106 yX3_ask ∈ jm_tbl := jm_in (tb5 (List.mem_of_getElem? (i := 188) rfl)) rfl
theorem flX6_110 : Cond.methodLink RX6 110 yX3_openSets ∈ jm_tbl := jm_in (tb5 (List.mem_of_getElem? (i := 190) rfl)) rfl
theorem flX6_114 : Cond.methodLink RX6 114 yX10_begin ∈ jm_tbl := jm_in (tb5 (List.mem_of_getElem? (i := 195) rfl)) rfl
theorem flX6_120 : Cond.fieldLinkNest RX6 120 (TX10 16).1 (TX10 16).2.1 (TX10 16).2.2.1 "FirstComer" ∈ lw_tbl := (tb2 (List.mem_of_getElem? (i := 27) rfl))
theorem flX6_123 : Cond.methodLink RX6 123 yX10_place ∈ jm_tbl := jm_in (tb5 (List.mem_of_getElem? (i := 196) rfl)) rfl
theorem flX6_127 : Cond.methodLink RX6 127 yX10_turnTo ∈ jm_tbl := jm_in (tb5 (List.mem_of_getElem? (i := 197) rfl)) rfl
theorem flX6_130 : Cond.methodLink RX6 130 yX10_left ∈ jm_tbl := jm_in (tb5 (List.mem_of_getElem? (i := 198) rfl)) rfl
theorem flX6_134 : Cond.methodLink RX6 134 yX10_openSets ∈ jm_tbl := jm_in (tb5 (List.mem_of_getElem? (i := 199) rfl)) rfl
theorem flX6_137 : Cond.methodLink RX6 137 yX6_spread ∈ jm_tbl := jm_in (tb5 (List.mem_of_getElem? (i := 200) rfl)) rfl
theorem flX6_140 : Cond.methodLink RX6 140 yX10_behind ∈ jm_tbl := jm_in (tb5 (List.mem_of_getElem? (i := 204) rfl)) rfl
theorem flX6_144 : Cond.methodLink RX6 144 yJ6_bitCount_0f7a4 ∈ jm_tbl := jm_in (tb5 (List.mem_of_getElem? (i := 208) rfl)) rfl
theorem flX7_3 : Cond.methodLink RX7 3 Lib.objectInit ∈ jm_tbl := jm_in (tb4 (List.mem_of_getElem? (i := 89) rfl)) rfl
theorem flX7_9 : Cond.classLink RX7 9 RX0 ∈ jm_tbl := jm_in (tb4 (List.mem_of_getElem? (i := 90) rfl)) rfl
theorem flX7_11 : Cond.methodLinkNest RX7 11 yX0_init "FirstComer" ∈ lw_tbl := (tb4 (List.mem_of_getElem? (i := 91) rfl))
theorem flX7_12 : Cond.fieldLink RX7 12 (TX7 0).1 (TX7 0).2.1 (TX7 0).2.2.1 ∈ jm_tbl := jm_in (tb4 (List.mem_of_getElem? (i := 92) rfl)) rfl
theorem flX7_18 : Cond.fieldLink RX7 18 (TX7 1).1 (TX7 1).2.1 (TX7 1).2.2.1 ∈ jm_tbl := jm_in (tb4 (List.mem_of_getElem? (i := 94) rfl)) rfl
theorem flX7_22 : Cond.fieldLink RX7 22 (TX7 2).1 (TX7 2).2.1 (TX7 2).2.2.1 ∈ jm_tbl := jm_in (tb4 (List.mem_of_getElem? (i := 96) rfl)) rfl
theorem flX7_25 : Cond.fieldLink RX7 25 (TX7 3).1 (TX7 3).2.1 (TX7 3).2.2.1 ∈ jm_tbl := jm_in (tb4 (List.mem_of_getElem? (i := 98) rfl)) rfl
theorem flX7_28 : Cond.fieldLink RX7 28 (TX7 4).1 (TX7 4).2.1 (TX7 4).2.2.1 ∈ jm_tbl := jm_in (tb4 (List.mem_of_getElem? (i := 99) rfl)) rfl
theorem flX7_31 : Cond.methodLink RX7 31 yX0_copyAll ∈ jm_tbl := jm_in (tb4 (List.mem_of_getElem? (i := 165) rfl)) rfl
theorem flX7_35 : Cond.fieldLink RX7 35 (TX7 5).1 (TX7 5).2.1 (TX7 5).2.2.1 ∈ jm_tbl := jm_in (tb4 (List.mem_of_getElem? (i := 102) rfl)) rfl
theorem flX7_39 : Cond.fieldLinkNest RX7 39 (TX3 8).1 (TX3 8).2.1 (TX3 8).2.2.1 "FirstComer" ∈ lw_tbl := (tb1 (List.mem_of_getElem? (i := 214) rfl))
theorem flX7_45 : Cond.fieldLink RX7 45 (TX7 6).1 (TX7 6).2.1 (TX7 6).2.2.1 ∈ jm_tbl := jm_in (tb4 (List.mem_of_getElem? (i := 104) rfl)) rfl
theorem flX7_46 : Cond.fieldLinkNest RX7 46 (TX0 2).1 (TX0 2).2.1 (TX0 2).2.2.1 "FirstComer" ∈ lw_tbl := (tb1 (List.mem_of_getElem? (i := 162) rfl))
theorem flX7_49 : Cond.methodLink RX7 49 yX3_rankBy ∈ jm_tbl := jm_in (tb4 (List.mem_of_getElem? (i := 170) rfl)) rfl
theorem flX7_53 : Cond.fieldLink RX7 53 (TX7 7).1 (TX7 7).2.1 (TX7 7).2.2.1 ∈ jm_tbl := jm_in (tb4 (List.mem_of_getElem? (i := 105) rfl)) rfl
theorem flX7_56 : Cond.fieldLinkNest RX7 56 (TX3 5).1 (TX3 5).2.1 (TX3 5).2.2.1 "FirstComer" ∈ lw_tbl := (tb1 (List.mem_of_getElem? (i := 208) rfl))
theorem flX7_60 : Cond.fieldLinkNest RX7 60 (TX4 15).1 (TX4 15).2.1 (TX4 15).2.2.1 "FirstComer" ∈ lw_tbl := (tb2 (List.mem_of_getElem? (i := 226) rfl))
theorem flX7_65 : Cond.fieldLink RX7 65 (TX7 8).1 (TX7 8).2.1 (TX7 8).2.2.1 ∈ jm_tbl := jm_in (tb4 (List.mem_of_getElem? (i := 106) rfl)) rfl
theorem flX7_68 : Cond.fieldLinkNest RX7 68 (TX3 9).1 (TX3 9).2.1 (TX3 9).2.2.1 "FirstComer" ∈ lw_tbl := (tb1 (List.mem_of_getElem? (i := 216) rfl))
theorem flX7_71 : Cond.methodLink RX7 71 yX7_keepComer ∈ jm_tbl := jm_in (tb4 (List.mem_of_getElem? (i := 174) rfl)) rfl
theorem flX7_75 : Cond.fieldLinkNest RX7 75 (TX0 6).1 (TX0 6).2.1 (TX0 6).2.2.1 "FirstComer" ∈ lw_tbl := (tb1 (List.mem_of_getElem? (i := 177) rfl))
theorem flX7_78 : Cond.fieldLinkNest RX7 78 (TX3 4).1 (TX3 4).2.1 (TX3 4).2.2.1 "FirstComer" ∈ lw_tbl := (tb1 (List.mem_of_getElem? (i := 206) rfl))
theorem flX7_81 : Cond.fieldLinkNest RX7 81 (TX4 3).1 (TX4 3).2.1 (TX4 3).2.2.1 "FirstComer" ∈ lw_tbl := (tb2 (List.mem_of_getElem? (i := 198) rfl))
theorem flX7_84 : Cond.fieldLinkNest RX7 84 (TX4 2).1 (TX4 2).2.1 (TX4 2).2.2.1 "FirstComer" ∈ lw_tbl := (tb2 (List.mem_of_getElem? (i := 195) rfl))
theorem flX7_85 : Cond.fieldLinkNest RX7 85 (TX4 5).1 (TX4 5).2.1 (TX4 5).2.2.1 "FirstComer" ∈ lw_tbl := (tb2 (List.mem_of_getElem? (i := 204) rfl))
theorem flX7_86 : Cond.fieldLinkNest RX7 86 (TX4 16).1 (TX4 16).2.1 (TX4 16).2.2.1 "FirstComer" ∈ lw_tbl := (tb2 (List.mem_of_getElem? (i := 229) rfl))
theorem flX7_89 : Cond.fieldLinkNest RX7 89 (TX3 0).1 (TX3 0).2.1 (TX3 0).2.2.1 "FirstComer" ∈ lw_tbl := (tb1 (List.mem_of_getElem? (i := 201) rfl))
theorem flX7_93 : Cond.fieldLinkNest RX7 93 (TX3 6).1 (TX3 6).2.1 (TX3 6).2.2.1 "FirstComer" ∈ lw_tbl := (tb1 (List.mem_of_getElem? (i := 212) rfl))
theorem flX7_97 : Cond.fieldLinkNest RX7 97 (TX0 0).1 (TX0 0).2.1 (TX0 0).2.2.1 "FirstComer" ∈ lw_tbl := (tb1 (List.mem_of_getElem? (i := 154) rfl))
theorem flX7_100 : Cond.methodLink RX7 100 yX9_shareOf ∈ jm_tbl := jm_in (tb4 (List.mem_of_getElem? (i := 178) rfl)) rfl
theorem flX7_106 : Cond.fieldLinkNest RX7 106 (TX0 1).1 (TX0 1).2.1 (TX0 1).2.2.1 "FirstComer" ∈ lw_tbl := (tb1 (List.mem_of_getElem? (i := 159) rfl))
theorem flX7_109 : Cond.fieldLinkNest RX7 109 (TX0 3).1 (TX0 3).2.1 (TX0 3).2.2.1 "FirstComer" ∈ lw_tbl := (tb1 (List.mem_of_getElem? (i := 167) rfl))
theorem flX7_112 : Cond.fieldLinkNest RX7 112 (TX0 4).1 (TX0 4).2.1 (TX0 4).2.2.1 "FirstComer" ∈ lw_tbl := (tb1 (List.mem_of_getElem? (i := 171) rfl))
theorem flX7_115 : Cond.fieldLinkNest RX7 115 (TX0 5).1 (TX0 5).2.1 (TX0 5).2.2.1 "FirstComer" ∈ lw_tbl := (tb1 (List.mem_of_getElem? (i := 175) rfl))
theorem flX7_118 : Cond.methodLink RX7 118 yX7_priceAsked ∈ jm_tbl := jm_in (tb5 (List.mem_of_getElem? (i := 11) rfl)) rfl
theorem flX7_122 : Cond.methodLink RX7 122 yX7_isTaken ∈ jm_tbl := jm_in (tb5 (List.mem_of_getElem? (i := 1) rfl)) rfl
theorem flX7_126 : Cond.methodLink RX7 126 yX7_isWaived ∈ jm_tbl := jm_in (tb5 (List.mem_of_getElem? (i := 2) rfl)) rfl
theorem flX7_130 : Cond.methodLink RX7 130 yX7_isLate ∈ jm_tbl := jm_in (tb5 (List.mem_of_getElem? (i := 3) rfl)) rfl
theorem flX7_134 : Cond.methodLink RX7 134 yX7_isBehindAnother ∈ jm_tbl := jm_in (tb5 (List.mem_of_getElem? (i := 7) rfl)) rfl
theorem flX7_137 : Cond.methodLink RX7 137 yX1_of ∈ jm_tbl := jm_in (tb5 (List.mem_of_getElem? (i := 15) rfl)) rfl
theorem flX7_143 : Cond.methodLink RX7 143 yX7_weightsOf ∈ jm_tbl := jm_in (tb5 (List.mem_of_getElem? (i := 24) rfl)) rfl
theorem flX8_3 : Cond.methodLink RX8 3 Lib.objectInit ∈ jm_tbl := jm_in (tb1 (List.mem_of_getElem? (i := 112) rfl)) rfl
theorem flX8_9 : Cond.fieldLink RX8 9 (TX8 0).1 (TX8 0).2.1 (TX8 0).2.2.1 ∈ jm_tbl := jm_in (tb1 (List.mem_of_getElem? (i := 113) rfl)) rfl
theorem flX8_15 : Cond.fieldLink RX8 15 (TX8 1).1 (TX8 1).2.1 (TX8 1).2.2.1 ∈ jm_tbl := jm_in (tb1 (List.mem_of_getElem? (i := 114) rfl)) rfl
theorem flX8_19 : Cond.fieldLink RX8 19 (TX8 9).1 (TX8 9).2.1 (TX8 9).2.2.1 ∈ jm_tbl := jm_in (tb1 (List.mem_of_getElem? (i := 123) rfl)) rfl
theorem flX8_23 : Cond.methodLink RX8 23 yX4_empty ∈ jm_tbl := jm_in (tb3 (List.mem_of_getElem? (i := 159) rfl)) rfl
theorem flX8_28 : Cond.fieldLink RX8 28 (TX8 7).1 (TX8 7).2.1 (TX8 7).2.2.1 ∈ jm_tbl := jm_in (tb1 (List.mem_of_getElem? (i := 121) rfl)) rfl
theorem flX8_32 : Cond.fieldLink RX8 32 (TX8 8).1 (TX8 8).2.1 (TX8 8).2.2.1 ∈ jm_tbl := jm_in (tb1 (List.mem_of_getElem? (i := 122) rfl)) rfl
theorem flX8_35 : Cond.fieldLink RX8 35 (TX8 6).1 (TX8 6).2.1 (TX8 6).2.2.1 ∈ jm_tbl := jm_in (tb1 (List.mem_of_getElem? (i := 120) rfl)) rfl
theorem flX8_38 : Cond.fieldLink RX8 38 (TX8 2).1 (TX8 2).2.1 (TX8 2).2.2.1 ∈ jm_tbl := jm_in (tb1 (List.mem_of_getElem? (i := 116) rfl)) rfl
theorem flX8_41 : Cond.methodLink RX8 41 yX8_next ∈ jm_tbl := jm_in (tb3 (List.mem_of_getElem? (i := 163) rfl)) rfl
theorem flX8_44 : Cond.fieldLink RX8 44 (TX8 4).1 (TX8 4).2.1 (TX8 4).2.2.1 ∈ jm_tbl := jm_in (tb1 (List.mem_of_getElem? (i := 118) rfl)) rfl
theorem flX8_47 : Cond.fieldLinkNest RX8 47 (TX4 14).1 (TX4 14).2.1 (TX4 14).2.2.1 "FirstComer" ∈ lw_tbl := (tb2 (List.mem_of_getElem? (i := 222) rfl))
theorem flX8_50 : Cond.methodLink RX8 50 yX8_wrong ∈ jm_tbl := jm_in (tb3 (List.mem_of_getElem? (i := 229) rfl)) rfl
theorem flX8_54 : Cond.methodLink RX8 54 yX8_readRule ∈ jm_tbl := jm_in (tb3 (List.mem_of_getElem? (i := 233) rfl)) rfl
theorem flX8_58 : Cond.methodLink RX8 58 yX8_readPrice ∈ jm_tbl := jm_in (tb4 (List.mem_of_getElem? (i := 39) rfl)) rfl
theorem flX8_61 : Cond.methodLink RX8 61 yX8_readParts ∈ jm_tbl := jm_in (tb4 (List.mem_of_getElem? (i := 43) rfl)) rfl
theorem flX8_64 : Cond.fieldLink RX8 64 (TX8 3).1 (TX8 3).2.1 (TX8 3).2.2.1 ∈ jm_tbl := jm_in (tb1 (List.mem_of_getElem? (i := 117) rfl)) rfl
theorem flX8_67 : Cond.methodLink RX8 67 yX8_isLetter ∈ jm_tbl := jm_in (tb3 (List.mem_of_getElem? (i := 167) rfl)) rfl
theorem flX8_71 : Cond.methodLink RX8 71 yX8_takeWord ∈ jm_tbl := jm_in (tb3 (List.mem_of_getElem? (i := 170) rfl)) rfl
theorem flX8_74 : Cond.methodLink RX8 74 yX8_isDigit ∈ jm_tbl := jm_in (tb3 (List.mem_of_getElem? (i := 219) rfl)) rfl
theorem flX8_77 : Cond.methodLink RX8 77 yX8_takeNumber ∈ jm_tbl := jm_in (tb3 (List.mem_of_getElem? (i := 222) rfl)) rfl
theorem flX8_80 : Cond.methodLink RX8 80 yX8_isSign ∈ jm_tbl := jm_in (tb3 (List.mem_of_getElem? (i := 226) rfl)) rfl
theorem flX8_83 : Cond.methodLink RX8 83 yX8_isWord ∈ jm_tbl := jm_in (tb3 (List.mem_of_getElem? (i := 174) rfl)) rfl
theorem flX8_88 : Cond.methodLink RX8 88 yJ0_charAt_5068e ∈ jm_tbl := jm_in (tb3 (List.mem_of_getElem? (i := 179) rfl)) rfl
theorem flX8_94 : Cond.fieldLink RX8 94 (TX8 5).1 (TX8 5).2.1 (TX8 5).2.2.1 ∈ jm_tbl := jm_in (tb1 (List.mem_of_getElem? (i := 119) rfl)) rfl
theorem flX8_97 : Cond.fieldLinkNest RX8 97 (TX4 15).1 (TX4 15).2.1 (TX4 15).2.2.1 "FirstComer" ∈ lw_tbl := (tb2 (List.mem_of_getElem? (i := 227) rfl))
theorem flX8_100 : Cond.methodLink RX8 100 yX8_want ∈ jm_tbl := jm_in (tb4 (List.mem_of_getElem? (i := 8) rfl)) rfl
theorem flX8_103 : Cond.fieldLinkNest RX8 103 (TX4 16).1 (TX4 16).2.1 (TX4 16).2.2.1 "FirstComer" ∈ lw_tbl := (tb2 (List.mem_of_getElem? (i := 230) rfl))
theorem flX8_106 : Cond.fieldLinkNest RX8 106 (TX4 12).1 (TX4 12).2.1 (TX4 12).2.2.1 "FirstComer" ∈ lw_tbl := (tb2 (List.mem_of_getElem? (i := 218) rfl))
theorem flX8_109 : Cond.methodLink RX8 109 yX4_addLine ∈ jm_tbl := jm_in (tb3 (List.mem_of_getElem? (i := 237) rfl)) rfl
theorem flX8_113 : Cond.methodLink RX8 113 yX8_readWho ∈ jm_tbl := jm_in (tb4 (List.mem_of_getElem? (i := 4) rfl)) rfl
theorem flX8_116 : Cond.methodLink RX8 116 yX8_readForms ∈ jm_tbl := jm_in (tb4 (List.mem_of_getElem? (i := 12) rfl)) rfl
theorem flX8_119 : Cond.methodLink RX8 119 yX8_readWithin ∈ jm_tbl := jm_in (tb4 (List.mem_of_getElem? (i := 16) rfl)) rfl
theorem flX8_122 : Cond.methodLink RX8 122 yX8_readLevel ∈ jm_tbl := jm_in (tb4 (List.mem_of_getElem? (i := 20) rfl)) rfl
theorem flX8_126 : Cond.methodLink RX8 126 yX4_endCondition ∈ jm_tbl := jm_in (tb4 (List.mem_of_getElem? (i := 35) rfl)) rfl
theorem flX8_129 : Cond.fieldLinkNest RX8 129 (TX4 3).1 (TX4 3).2.1 (TX4 3).2.2.1 "FirstComer" ∈ lw_tbl := (tb2 (List.mem_of_getElem? (i := 200) rfl))
theorem flX8_133 : Cond.fieldLinkNest RX8 133 (TX4 4).1 (TX4 4).2.1 (TX4 4).2.2.1 "FirstComer" ∈ lw_tbl := (tb2 (List.mem_of_getElem? (i := 202) rfl))
theorem flX8_136 : Cond.fieldLinkNest RX8 136 (TX4 5).1 (TX4 5).2.1 (TX4 5).2.2.1 "FirstComer" ∈ lw_tbl := (tb2 (List.mem_of_getElem? (i := 205) rfl))
theorem flX8_139 : Cond.methodLink RX8 139 yX8_readPiece ∈ jm_tbl := jm_in (tb4 (List.mem_of_getElem? (i := 24) rfl)) rfl
theorem flX8_142 : Cond.methodLink RX8 142 yX8_levelOf ∈ jm_tbl := jm_in (tb4 (List.mem_of_getElem? (i := 32) rfl)) rfl
theorem flX8_146 : Cond.methodLink RX8 146 yX4_addCode ∈ jm_tbl := jm_in (tb4 (List.mem_of_getElem? (i := 28) rfl)) rfl
theorem flX9_3 : Cond.methodLink RX9 3 Lib.objectInit ∈ jm_tbl := jm_in (tb1 (List.mem_of_getElem? (i := 37) rfl)) rfl
theorem flX9_9 : Cond.fieldLink RX9 9 (TX9 0).1 (TX9 0).2.1 (TX9 0).2.2.1 ∈ jm_tbl := jm_in (tb1 (List.mem_of_getElem? (i := 39) rfl)) rfl
theorem flX9_15 : Cond.fieldLink RX9 15 (TX9 1).1 (TX9 1).2.1 (TX9 1).2.2.1 ∈ jm_tbl := jm_in (tb1 (List.mem_of_getElem? (i := 41) rfl)) rfl
theorem flX9_18 : Cond.fieldLink RX9 18 (TX9 2).1 (TX9 2).2.1 (TX9 2).2.2.1 ∈ jm_tbl := jm_in (tb1 (List.mem_of_getElem? (i := 42) rfl)) rfl
theorem flX9_21 : Cond.fieldLink RX9 21 (TX9 3).1 (TX9 3).2.1 (TX9 3).2.2.1 ∈ jm_tbl := jm_in (tb1 (List.mem_of_getElem? (i := 44) rfl)) rfl
theorem flX9_24 : Cond.fieldLink RX9 24 (TX9 4).1 (TX9 4).2.1 (TX9 4).2.2.1 ∈ jm_tbl := jm_in (tb1 (List.mem_of_getElem? (i := 46) rfl)) rfl
theorem flX9_28 : Cond.fieldLink RX9 28 (TX9 7).1 (TX9 7).2.1 (TX9 7).2.2.1 ∈ jm_tbl := jm_in (tb1 (List.mem_of_getElem? (i := 52) rfl)) rfl
theorem flX9_32 : Cond.fieldLink RX9 32 (TX9 5).1 (TX9 5).2.1 (TX9 5).2.2.1 ∈ jm_tbl := jm_in (tb1 (List.mem_of_getElem? (i := 48) rfl)) rfl
theorem flX9_35 : Cond.methodLink RX9 35 yX9_isTold ∈ jm_tbl := jm_in (tb3 (List.mem_of_getElem? (i := 112) rfl)) rfl
theorem flX9_39 : Cond.methodLinkNest RX9 39 yX11_withBit "FirstComer" ∈ lw_tbl := (tb3 (List.mem_of_getElem? (i := 129) rfl))
theorem flX9_43 : Cond.fieldLinkNest RX9 43 (TX1 1).1 (TX1 1).2.1 (TX1 1).2.2.1 "FirstComer" ∈ lw_tbl := (tb1 (List.mem_of_getElem? (i := 93) rfl))
theorem flX9_48 : Cond.methodLink RX9 48 yX1_holdersOf ∈ jm_tbl := jm_in (tb4 (List.mem_of_getElem? (i := 59) rfl)) rfl
theorem flX9_52 : Cond.methodLink RX9 52 yX1_of ∈ jm_tbl := jm_in (tb4 (List.mem_of_getElem? (i := 182) rfl)) rfl
theorem flX9_56 : Cond.methodLink RX9 56 yX1_sumOf ∈ jm_tbl := jm_in (tb4 (List.mem_of_getElem? (i := 183) rfl)) rfl
theorem flX10_3 : Cond.methodLink RX10 3 Lib.objectInit ∈ jm_tbl := jm_in (tb2 (List.mem_of_getElem? (i := 5) rfl)) rfl
theorem flX10_9 : Cond.classLink RX10 9 RX1 ∈ jm_tbl := jm_in (tb2 (List.mem_of_getElem? (i := 6) rfl)) rfl
theorem flX10_11 : Cond.methodLinkNest RX10 11 yX1_init "FirstComer" ∈ lw_tbl := (tb2 (List.mem_of_getElem? (i := 7) rfl))
theorem flX10_12 : Cond.fieldLink RX10 12 (TX10 3).1 (TX10 3).2.1 (TX10 3).2.2.1 ∈ jm_tbl := jm_in (tb2 (List.mem_of_getElem? (i := 13) rfl)) rfl
theorem flX10_18 : Cond.classLink RX10 18 RX0 ∈ jm_tbl := jm_in (tb2 (List.mem_of_getElem? (i := 8) rfl)) rfl
theorem flX10_20 : Cond.methodLinkNest RX10 20 yX0_init "FirstComer" ∈ lw_tbl := (tb2 (List.mem_of_getElem? (i := 9) rfl))
theorem flX10_21 : Cond.fieldLink RX10 21 (TX10 4).1 (TX10 4).2.1 (TX10 4).2.2.1 ∈ jm_tbl := jm_in (tb2 (List.mem_of_getElem? (i := 14) rfl)) rfl
theorem flX10_25 : Cond.fieldLink RX10 25 (TX10 5).1 (TX10 5).2.1 (TX10 5).2.2.1 ∈ jm_tbl := jm_in (tb2 (List.mem_of_getElem? (i := 15) rfl)) rfl
theorem flX10_29 : Cond.fieldLink RX10 29 (TX10 6).1 (TX10 6).2.1 (TX10 6).2.2.1 ∈ jm_tbl := jm_in (tb2 (List.mem_of_getElem? (i := 16) rfl)) rfl
theorem flX10_32 : Cond.fieldLink RX10 32 (TX10 7).1 (TX10 7).2.1 (TX10 7).2.2.1 ∈ jm_tbl := jm_in (tb2 (List.mem_of_getElem? (i := 17) rfl)) rfl
theorem flX10_35 : Cond.fieldLink RX10 35 (TX10 19).1 (TX10 19).2.1 (TX10 19).2.2.1 ∈ jm_tbl := jm_in (tb2 (List.mem_of_getElem? (i := 30) rfl)) rfl
theorem flX10_39 : Cond.fieldLink RX10 39 (TX10 0).1 (TX10 0).2.1 (TX10 0).2.2.1 ∈ jm_tbl := jm_in (tb2 (List.mem_of_getElem? (i := 10) rfl)) rfl
theorem flX10_43 : Cond.fieldLink RX10 43 (TX10 1).1 (TX10 1).2.1 (TX10 1).2.2.1 ∈ jm_tbl := jm_in (tb2 (List.mem_of_getElem? (i := 11) rfl)) rfl
theorem flX10_46 : Cond.fieldLink RX10 46 (TX10 2).1 (TX10 2).2.1 (TX10 2).2.2.1 ∈ jm_tbl := jm_in (tb2 (List.mem_of_getElem? (i := 12) rfl)) rfl
theorem flX10_50 : Cond.fieldLink RX10 50 (TX10 9).1 (TX10 9).2.1 (TX10 9).2.2.1 ∈ jm_tbl := jm_in (tb2 (List.mem_of_getElem? (i := 19) rfl)) rfl
theorem flX10_53 : Cond.fieldLink RX10 53 (TX10 11).1 (TX10 11).2.1 (TX10 11).2.2.1 ∈ jm_tbl := jm_in (tb2 (List.mem_of_getElem? (i := 21) rfl)) rfl
theorem flX10_56 : Cond.fieldLink RX10 56 (TX10 12).1 (TX10 12).2.1 (TX10 12).2.2.1 ∈ jm_tbl := jm_in (tb2 (List.mem_of_getElem? (i := 22) rfl)) rfl
theorem flX10_59 : Cond.fieldLink RX10 59 (TX10 13).1 (TX10 13).2.1 (TX10 13).2.2.1 ∈ jm_tbl := jm_in (tb2 (List.mem_of_getElem? (i := 23) rfl)) rfl
theorem flX10_62 : Cond.fieldLink RX10 62 (TX10 10).1 (TX10 10).2.1 (TX10 10).2.2.1 ∈ jm_tbl := jm_in (tb2 (List.mem_of_getElem? (i := 20) rfl)) rfl
theorem flX10_65 : Cond.methodLink RX10 65 yX1_of ∈ jm_tbl := jm_in (tb5 (List.mem_of_getElem? (i := 47) rfl)) rfl
theorem flX10_69 : Cond.fieldLink RX10 69 (TX10 16).1 (TX10 16).2.1 (TX10 16).2.2.1 ∈ jm_tbl := jm_in (tb2 (List.mem_of_getElem? (i := 26) rfl)) rfl
theorem flX10_72 : Cond.methodLink RX10 72 yX1_copyAll ∈ jm_tbl := jm_in (tb5 (List.mem_of_getElem? (i := 48) rfl)) rfl
theorem flX10_76 : Cond.methodLink RX10 76 yX10_left ∈ jm_tbl := jm_in (tb5 (List.mem_of_getElem? (i := 67) rfl)) rfl
theorem flX10_79 : Cond.methodLink RX10 79 yX1_move ∈ jm_tbl := jm_in (tb5 (List.mem_of_getElem? (i := 71) rfl)) rfl
theorem flX10_83 : Cond.fieldLink RX10 83 (TX10 14).1 (TX10 14).2.1 (TX10 14).2.2.1 ∈ jm_tbl := jm_in (tb2 (List.mem_of_getElem? (i := 24) rfl)) rfl
theorem flX10_86 : Cond.methodLink RX10 86 yX3_settle ∈ jm_tbl := jm_in (tb5 (List.mem_of_getElem? (i := 76) rfl)) rfl
theorem flX10_92 : Cond.fieldLink RX10 92 (TX10 15).1 (TX10 15).2.1 (TX10 15).2.2.1 ∈ jm_tbl := jm_in (tb2 (List.mem_of_getElem? (i := 25) rfl)) rfl
theorem flX10_95 : Cond.methodLink RX10 95 yX0_tellEach ∈ jm_tbl := jm_in (tb5 (List.mem_of_getElem? (i := 81) rfl)) rfl
theorem flX10_99 : Cond.methodLink RX10 99 yX3_ask ∈ jm_tbl := jm_in (tb5 (List.mem_of_getElem? (i := 85) rfl)) rfl
theorem flX10_104 : Cond.methodLink RX10 104 yX3_openSets ∈ jm_tbl := jm_in (tb5 (List.mem_of_getElem? (i := 87) rfl)) rfl
theorem flX10_110 : Cond.fieldLinkNest RX10 110 (TX9 9).1 (TX9 9).2.1 (TX9 9).2.2.1 "FirstComer" ∈ lw_tbl := (tb1 (List.mem_of_getElem? (i := 61) rfl))
theorem flX10_115 : Cond.methodLink RX10 115 yX10_begin ∈ jm_tbl := jm_in (tb5 (List.mem_of_getElem? (i := 43) rfl)) rfl
theorem flX10_118 : Cond.methodLink RX10 118 yX10_search ∈ jm_tbl := jm_in (tb5 (List.mem_of_getElem? (i := 55) rfl)) rfl
theorem flX10_122 : Cond.fieldLink RX10 122 (TX10 18).1 (TX10 18).2.1 (TX10 18).2.2.1 ∈ jm_tbl := jm_in (tb2 (List.mem_of_getElem? (i := 29) rfl)) rfl
theorem flX10_125 : Cond.fieldLink RX10 125 (TX10 8).1 (TX10 8).2.1 (TX10 8).2.2.1 ∈ jm_tbl := jm_in (tb2 (List.mem_of_getElem? (i := 18) rfl)) rfl
theorem flX10_128 : Cond.methodLink RX10 128 yX10_endsBehind ∈ jm_tbl := jm_in (tb5 (List.mem_of_getElem? (i := 59) rfl)) rfl
theorem flX10_132 : Cond.methodLink RX10 132 yX10_spread ∈ jm_tbl := jm_in (tb5 (List.mem_of_getElem? (i := 100) rfl)) rfl
theorem flX10_136 : Cond.methodLink RX10 136 yX10_place ∈ jm_tbl := jm_in (tb5 (List.mem_of_getElem? (i := 63) rfl)) rfl
theorem flX10_139 : Cond.methodLink RX10 139 yX10_turnTo ∈ jm_tbl := jm_in (tb5 (List.mem_of_getElem? (i := 72) rfl)) rfl
theorem flX10_142 : Cond.methodLink RX10 142 yX10_openSets ∈ jm_tbl := jm_in (tb5 (List.mem_of_getElem? (i := 77) rfl)) rfl
theorem flX10_145 : Cond.methodLink RX10 145 yX10_behind ∈ jm_tbl := jm_in (tb5 (List.mem_of_getElem? (i := 92) rfl)) rfl
theorem flX10_149 : Cond.fieldLink RX10 149 (TX10 17).1 (TX10 17).2.1 (TX10 17).2.2.1 ∈ jm_tbl := jm_in (tb2 (List.mem_of_getElem? (i := 28) rfl)) rfl
theorem flX10_152 : Cond.methodLink RX10 152 yX10_keepStep ∈ jm_tbl := jm_in (tb5 (List.mem_of_getElem? (i := 96) rfl)) rfl
theorem flL_19 : Cond.methodLink RL 19 yX11_parcel ∈ jm_tbl := jm_in (tb3 (List.mem_of_getElem? (i := 70) rfl)) rfl
theorem flL_23 : Cond.methodLink RL 23 yX12_parcel ∈ jm_tbl := jm_in (tb7 (List.mem_of_getElem? (i := 165) rfl)) rfl
theorem flL_24 : Cond.methodLink RL 24 yX11_part ∈ jm_tbl := jm_in (tb3 (List.mem_of_getElem? (i := 88) rfl)) rfl
theorem flL_28 : Cond.methodLink RL 28 yX12_part ∈ jm_tbl := jm_in (tb7 (List.mem_of_getElem? (i := 175) rfl)) rfl
theorem flL_29 : Cond.methodLink RL 29 yX11_beside ∈ jm_tbl := jm_in (tb3 (List.mem_of_getElem? (i := 104) rfl)) rfl
theorem flL_33 : Cond.methodLink RL 33 yX12_beside ∈ jm_tbl := jm_in (tb7 (List.mem_of_getElem? (i := 187) rfl)) rfl
theorem flL_34 : Cond.methodLink RL 34 yX11_water ∈ jm_tbl := jm_in (tb3 (List.mem_of_getElem? (i := 117) rfl)) rfl
theorem flL_37 : Cond.methodLink RL 37 yX12_water ∈ jm_tbl := jm_in (tb7 (List.mem_of_getElem? (i := 191) rfl)) rfl
theorem flL_38 : Cond.methodLink RL 38 yX11_kin ∈ jm_tbl := jm_in (tb3 (List.mem_of_getElem? (i := 121) rfl)) rfl
theorem flL_41 : Cond.methodLink RL 41 yX12_kin ∈ jm_tbl := jm_in (tb7 (List.mem_of_getElem? (i := 195) rfl)) rfl
theorem flL_42 : Cond.methodLink RL 42 yX11_need ∈ jm_tbl := jm_in (tb3 (List.mem_of_getElem? (i := 130) rfl)) rfl
theorem flL_46 : Cond.methodLink RL 46 yX12_need ∈ jm_tbl := jm_in (tb7 (List.mem_of_getElem? (i := 199) rfl)) rfl
theorem flL_47 : Cond.methodLink RL 47 yX11_care ∈ jm_tbl := jm_in (tb3 (List.mem_of_getElem? (i := 135) rfl)) rfl
theorem flL_50 : Cond.methodLink RL 50 yX12_care ∈ jm_tbl := jm_in (tb7 (List.mem_of_getElem? (i := 203) rfl)) rfl
theorem flL_51 : Cond.methodLink RL 51 yX11_days ∈ jm_tbl := jm_in (tb3 (List.mem_of_getElem? (i := 139) rfl)) rfl
theorem flL_55 : Cond.methodLink RL 55 yX12_days ∈ jm_tbl := jm_in (tb7 (List.mem_of_getElem? (i := 207) rfl)) rfl
theorem flL_58 : Cond.methodLink RL 58 yX11_feed ∈ jm_tbl := jm_in (tb3 (List.mem_of_getElem? (i := 143) rfl)) rfl
theorem flL_62 : Cond.methodLink RL 62 yX12_feed ∈ jm_tbl := jm_in (tb7 (List.mem_of_getElem? (i := 227) rfl)) rfl
theorem flL_63 : Cond.methodLink RL 63 yX11_law ∈ jm_tbl := jm_in (tb3 (List.mem_of_getElem? (i := 151) rfl)) rfl
theorem flL_67 : Cond.methodLink RL 67 yX12_law ∈ jm_tbl := jm_in (tb7 (List.mem_of_getElem? (i := 232) rfl)) rfl
theorem flL_68 : Cond.methodLink RL 68 yX11_holds ∈ jm_tbl := jm_in (tb4 (List.mem_of_getElem? (i := 47) rfl)) rfl
theorem flL_71 : Cond.methodLink RL 71 yX12_holds ∈ jm_tbl := jm_in (tb7 (List.mem_of_getElem? (i := 211) rfl)) rfl
theorem flL_72 : Cond.methodLink RL 72 yX11_stands ∈ jm_tbl := jm_in (tb4 (List.mem_of_getElem? (i := 51) rfl)) rfl
theorem flL_76 : Cond.methodLink RL 76 yX12_stands ∈ jm_tbl := jm_in (tb7 (List.mem_of_getElem? (i := 215) rfl)) rfl
theorem flL_77 : Cond.methodLink RL 77 yX11_pass ∈ jm_tbl := jm_in (tb4 (List.mem_of_getElem? (i := 63) rfl)) rfl
theorem flL_81 : Cond.methodLink RL 81 yX12_pass ∈ jm_tbl := jm_in (tb8 (List.mem_of_getElem? (i := 81) rfl)) rfl
theorem flL_82 : Cond.methodLink RL 82 yX11_would ∈ jm_tbl := jm_in (tb4 (List.mem_of_getElem? (i := 188) rfl)) rfl
theorem flL_85 : Cond.methodLink RL 85 yX12_would ∈ jm_tbl := jm_in (tb8 (List.mem_of_getElem? (i := 133) rfl)) rfl
theorem flL_86 : Cond.methodLink RL 86 yL_look ∈ jm_tbl := jm_in (tb6 (List.mem_of_getElem? (i := 27) rfl)) rfl
theorem flL_91 : Cond.methodLink RL 91 yX12_look ∈ jm_tbl := jm_in (tb8 (List.mem_of_getElem? (i := 141) rfl)) rfl
theorem flL_92 : Cond.methodLink RL 92 yX12_thrown ∈ jm_tbl := jm_in (tb7 (List.mem_of_getElem? (i := 161) rfl)) rfl
theorem flL_95 : Cond.methodLink RL 95 yX11_may ∈ jm_tbl := jm_in (tb4 (List.mem_of_getElem? (i := 192) rfl)) rfl
theorem flL_98 : Cond.methodLink RL 98 yX12_may ∈ jm_tbl := jm_in (tb8 (List.mem_of_getElem? (i := 153) rfl)) rfl
theorem flL_99 : Cond.methodLink RL 99 yX11_order ∈ jm_tbl := jm_in (tb4 (List.mem_of_getElem? (i := 200) rfl)) rfl
theorem flL_102 : Cond.methodLink RL 102 yX12_order ∈ jm_tbl := jm_in (tb8 (List.mem_of_getElem? (i := 161) rfl)) rfl
theorem flL_103 : Cond.methodLink RL 103 yX11_hears ∈ jm_tbl := jm_in (tb4 (List.mem_of_getElem? (i := 208) rfl)) rfl
theorem flL_106 : Cond.methodLink RL 106 yX12_hears ∈ jm_tbl := jm_in (tb8 (List.mem_of_getElem? (i := 165) rfl)) rfl
theorem flL_107 : Cond.methodLink RL 107 yX11_till ∈ jm_tbl := jm_in (tb4 (List.mem_of_getElem? (i := 212) rfl)) rfl
theorem flL_110 : Cond.methodLink RL 110 yX12_till ∈ jm_tbl := jm_in (tb8 (List.mem_of_getElem? (i := 169) rfl)) rfl
theorem flL_111 : Cond.methodLink RL 111 yX11_waive ∈ jm_tbl := jm_in (tb4 (List.mem_of_getElem? (i := 216) rfl)) rfl
theorem flL_114 : Cond.methodLink RL 114 yX12_waive ∈ jm_tbl := jm_in (tb8 (List.mem_of_getElem? (i := 173) rfl)) rfl
theorem flL_115 : Cond.methodLink RL 115 yX11_truly ∈ jm_tbl := jm_in (tb4 (List.mem_of_getElem? (i := 224) rfl)) rfl
theorem flL_118 : Cond.methodLink RL 118 yX12_truly ∈ jm_tbl := jm_in (tb8 (List.mem_of_getElem? (i := 177) rfl)) rfl
theorem flL_119 : Cond.methodLink RL 119 yX11_claim ∈ jm_tbl := jm_in (tb4 (List.mem_of_getElem? (i := 233) rfl)) rfl
theorem flL_122 : Cond.methodLink RL 122 yX12_claim ∈ jm_tbl := jm_in (tb8 (List.mem_of_getElem? (i := 181) rfl)) rfl
theorem flL_123 : Cond.methodLink RL 123 yX11_parted ∈ jm_tbl := jm_in (tb5 (List.mem_of_getElem? (i := 16) rfl)) rfl
theorem flL_126 : Cond.methodLink RL 126 yX12_parted ∈ jm_tbl := jm_in (tb8 (List.mem_of_getElem? (i := 189) rfl)) rfl
theorem flL_127 : Cond.methodLink RL 127 yX11_sly ∈ jm_tbl := jm_in (tb5 (List.mem_of_getElem? (i := 28) rfl)) rfl
theorem flL_131 : Cond.methodLink RL 131 yX12_sly ∈ jm_tbl := jm_in (tb8 (List.mem_of_getElem? (i := 193) rfl)) rfl
theorem flL_132 : Cond.methodLink RL 132 yX11_slyRow ∈ jm_tbl := jm_in (tb5 (List.mem_of_getElem? (i := 104) rfl)) rfl
theorem flL_136 : Cond.methodLink RL 136 yX12_slyRow ∈ jm_tbl := jm_in (tb8 (List.mem_of_getElem? (i := 217) rfl)) rfl
theorem flL_137 : Cond.methodLink RL 137 yX11_far ∈ jm_tbl := jm_in (tb5 (List.mem_of_getElem? (i := 112) rfl)) rfl
theorem flL_140 : Cond.methodLink RL 140 yX12_far ∈ jm_tbl := jm_in (tb8 (List.mem_of_getElem? (i := 221) rfl)) rfl
