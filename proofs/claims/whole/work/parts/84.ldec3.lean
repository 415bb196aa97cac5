/-! ===== the law: its code ===== -/
theorem dL_1851 : decode code 1851 = .ok (.aload_n 0, 1) := by decide +kernel
theorem dL_1852 : decode code 1852 = .ok (.iload_n 3, 1) := by decide +kernel
theorem dL_1853 : decode code 1853 = .ok (.iconst 4, 1) := by decide +kernel
theorem dL_1854 : decode code 1854 = .ok (.iadd, 1) := by decide +kernel
theorem dL_1855 : decode code 1855 = .ok (.iaload, 1) := by decide +kernel
theorem dL_1856 : decode code 1856 = .ok (.invokevirtual 193, 3) := by decide +kernel
theorem dL_1859 : decode code 1859 = .ok (.if_icmp .eq 566, 3) := by decide +kernel
theorem dL_1864 : decode code 1864 = .ok (.aload_n 1, 1) := by decide +kernel
theorem dL_1865 : decode code 1865 = .ok (.aload_n 0, 1) := by decide +kernel
theorem dL_1866 : decode code 1866 = .ok (.iload_n 3, 1) := by decide +kernel
theorem dL_1867 : decode code 1867 = .ok (.iconst 1, 1) := by decide +kernel
theorem dL_1868 : decode code 1868 = .ok (.iadd, 1) := by decide +kernel
theorem dL_1869 : decode code 1869 = .ok (.iaload, 1) := by decide +kernel
theorem dL_1870 : decode code 1870 = .ok (.aload_n 0, 1) := by decide +kernel
theorem dL_1871 : decode code 1871 = .ok (.iload_n 3, 1) := by decide +kernel
theorem dL_1872 : decode code 1872 = .ok (.iconst 2, 1) := by decide +kernel
theorem dL_1873 : decode code 1873 = .ok (.iadd, 1) := by decide +kernel
theorem dL_1874 : decode code 1874 = .ok (.iaload, 1) := by decide +kernel
theorem dL_1875 : decode code 1875 = .ok (.invokevirtual 194, 3) := by decide +kernel
theorem dL_1878 : decode code 1878 = .ok (.aload_n 2, 1) := by decide +kernel
theorem dL_1879 : decode code 1879 = .ok (.aload_n 0, 1) := by decide +kernel
theorem dL_1880 : decode code 1880 = .ok (.iload_n 3, 1) := by decide +kernel
theorem dL_1881 : decode code 1881 = .ok (.iconst 1, 1) := by decide +kernel
theorem dL_1882 : decode code 1882 = .ok (.iadd, 1) := by decide +kernel
theorem dL_1883 : decode code 1883 = .ok (.iaload, 1) := by decide +kernel
theorem dL_1884 : decode code 1884 = .ok (.aload_n 0, 1) := by decide +kernel
theorem dL_1885 : decode code 1885 = .ok (.iload_n 3, 1) := by decide +kernel
theorem dL_1886 : decode code 1886 = .ok (.iconst 2, 1) := by decide +kernel
theorem dL_1887 : decode code 1887 = .ok (.iadd, 1) := by decide +kernel
theorem dL_1888 : decode code 1888 = .ok (.iaload, 1) := by decide +kernel
theorem dL_1889 : decode code 1889 = .ok (.invokevirtual 197, 3) := by decide +kernel
theorem dL_1892 : decode code 1892 = .ok (.if_icmp .eq 533, 3) := by decide +kernel
theorem dL_1897 : decode code 1897 = .ok (.aload_n 1, 1) := by decide +kernel
theorem dL_1898 : decode code 1898 = .ok (.aload_n 0, 1) := by decide +kernel
theorem dL_1899 : decode code 1899 = .ok (.iload_n 3, 1) := by decide +kernel
theorem dL_1900 : decode code 1900 = .ok (.iconst 1, 1) := by decide +kernel
theorem dL_1901 : decode code 1901 = .ok (.iadd, 1) := by decide +kernel
theorem dL_1902 : decode code 1902 = .ok (.iaload, 1) := by decide +kernel
theorem dL_1903 : decode code 1903 = .ok (.aload_n 0, 1) := by decide +kernel
theorem dL_1904 : decode code 1904 = .ok (.iload_n 3, 1) := by decide +kernel
theorem dL_1905 : decode code 1905 = .ok (.iconst 2, 1) := by decide +kernel
theorem dL_1906 : decode code 1906 = .ok (.iadd, 1) := by decide +kernel
theorem dL_1907 : decode code 1907 = .ok (.iaload, 1) := by decide +kernel
theorem dL_1908 : decode code 1908 = .ok (.invokevirtual 198, 3) := by decide +kernel
theorem dL_1911 : decode code 1911 = .ok (.aload_n 2, 1) := by decide +kernel
theorem dL_1912 : decode code 1912 = .ok (.aload_n 0, 1) := by decide +kernel
theorem dL_1913 : decode code 1913 = .ok (.iload_n 3, 1) := by decide +kernel
theorem dL_1914 : decode code 1914 = .ok (.iconst 1, 1) := by decide +kernel
theorem dL_1915 : decode code 1915 = .ok (.iadd, 1) := by decide +kernel
theorem dL_1916 : decode code 1916 = .ok (.iaload, 1) := by decide +kernel
theorem dL_1917 : decode code 1917 = .ok (.aload_n 0, 1) := by decide +kernel
theorem dL_1918 : decode code 1918 = .ok (.iload_n 3, 1) := by decide +kernel
theorem dL_1919 : decode code 1919 = .ok (.iconst 2, 1) := by decide +kernel
theorem dL_1920 : decode code 1920 = .ok (.iadd, 1) := by decide +kernel
theorem dL_1921 : decode code 1921 = .ok (.iaload, 1) := by decide +kernel
theorem dL_1922 : decode code 1922 = .ok (.invokevirtual 201, 3) := by decide +kernel
theorem dL_1925 : decode code 1925 = .ok (.if_icmp .eq 500, 3) := by decide +kernel
theorem dL_1930 : decode code 1930 = .ok (.aload_n 1, 1) := by decide +kernel
theorem dL_1931 : decode code 1931 = .ok (.invokevirtual 202, 3) := by decide +kernel
theorem dL_1934 : decode code 1934 = .ok (.aload_n 2, 1) := by decide +kernel
theorem dL_1935 : decode code 1935 = .ok (.invokevirtual 205, 3) := by decide +kernel
theorem dL_1938 : decode code 1938 = .ok (.if_icmp .eq 487, 3) := by decide +kernel
theorem dL_1943 : decode code 1943 = .ok (.aload_n 1, 1) := by decide +kernel
theorem dL_1944 : decode code 1944 = .ok (.invokevirtual 206, 3) := by decide +kernel
theorem dL_1947 : decode code 1947 = .ok (.aload_n 2, 1) := by decide +kernel
theorem dL_1948 : decode code 1948 = .ok (.invokevirtual 209, 3) := by decide +kernel
theorem dL_1951 : decode code 1951 = .ok (.if_icmp .eq 474, 3) := by decide +kernel
theorem dL_1956 : decode code 1956 = .ok (.aload_n 1, 1) := by decide +kernel
theorem dL_1957 : decode code 1957 = .ok (.aload_n 0, 1) := by decide +kernel
theorem dL_1958 : decode code 1958 = .ok (.iload_n 3, 1) := by decide +kernel
theorem dL_1959 : decode code 1959 = .ok (.iconst 1, 1) := by decide +kernel
theorem dL_1960 : decode code 1960 = .ok (.iadd, 1) := by decide +kernel
theorem dL_1961 : decode code 1961 = .ok (.iaload, 1) := by decide +kernel
theorem dL_1962 : decode code 1962 = .ok (.aload_n 0, 1) := by decide +kernel
theorem dL_1963 : decode code 1963 = .ok (.iload_n 3, 1) := by decide +kernel
theorem dL_1964 : decode code 1964 = .ok (.iconst 2, 1) := by decide +kernel
theorem dL_1965 : decode code 1965 = .ok (.iadd, 1) := by decide +kernel
theorem dL_1966 : decode code 1966 = .ok (.iaload, 1) := by decide +kernel
theorem dL_1967 : decode code 1967 = .ok (.invokevirtual 210, 3) := by decide +kernel
theorem dL_1970 : decode code 1970 = .ok (.aload_n 2, 1) := by decide +kernel
theorem dL_1971 : decode code 1971 = .ok (.aload_n 0, 1) := by decide +kernel
theorem dL_1972 : decode code 1972 = .ok (.iload_n 3, 1) := by decide +kernel
theorem dL_1973 : decode code 1973 = .ok (.iconst 1, 1) := by decide +kernel
theorem dL_1974 : decode code 1974 = .ok (.iadd, 1) := by decide +kernel
theorem dL_1975 : decode code 1975 = .ok (.iaload, 1) := by decide +kernel
theorem dL_1976 : decode code 1976 = .ok (.aload_n 0, 1) := by decide +kernel
theorem dL_1977 : decode code 1977 = .ok (.iload_n 3, 1) := by decide +kernel
theorem dL_1978 : decode code 1978 = .ok (.iconst 2, 1) := by decide +kernel
theorem dL_1979 : decode code 1979 = .ok (.iadd, 1) := by decide +kernel
theorem dL_1980 : decode code 1980 = .ok (.iaload, 1) := by decide +kernel
theorem dL_1981 : decode code 1981 = .ok (.invokevirtual 213, 3) := by decide +kernel
theorem dL_1984 : decode code 1984 = .ok (.lcmp, 1) := by decide +kernel
theorem dL_1985 : decode code 1985 = .ok (.ifCond .eq 440, 3) := by decide +kernel
theorem dL_1990 : decode code 1990 = .ok (.aload_n 1, 1) := by decide +kernel
theorem dL_1991 : decode code 1991 = .ok (.aload_n 0, 1) := by decide +kernel
theorem dL_1992 : decode code 1992 = .ok (.iload_n 3, 1) := by decide +kernel
theorem dL_1993 : decode code 1993 = .ok (.iconst 1, 1) := by decide +kernel
theorem dL_1994 : decode code 1994 = .ok (.iadd, 1) := by decide +kernel
theorem dL_1995 : decode code 1995 = .ok (.iaload, 1) := by decide +kernel
theorem dL_1996 : decode code 1996 = .ok (.aload_n 0, 1) := by decide +kernel
theorem dL_1997 : decode code 1997 = .ok (.iload_n 3, 1) := by decide +kernel
theorem dL_1998 : decode code 1998 = .ok (.iconst 2, 1) := by decide +kernel
theorem dL_1999 : decode code 1999 = .ok (.iadd, 1) := by decide +kernel
theorem dL_2000 : decode code 2000 = .ok (.iaload, 1) := by decide +kernel
theorem dL_2001 : decode code 2001 = .ok (.invokevirtual 214, 3) := by decide +kernel
theorem dL_2004 : decode code 2004 = .ok (.aload_n 2, 1) := by decide +kernel
theorem dL_2005 : decode code 2005 = .ok (.aload_n 0, 1) := by decide +kernel
theorem dL_2006 : decode code 2006 = .ok (.iload_n 3, 1) := by decide +kernel
theorem dL_2007 : decode code 2007 = .ok (.iconst 1, 1) := by decide +kernel
theorem dL_2008 : decode code 2008 = .ok (.iadd, 1) := by decide +kernel
theorem dL_2009 : decode code 2009 = .ok (.iaload, 1) := by decide +kernel
theorem dL_2010 : decode code 2010 = .ok (.aload_n 0, 1) := by decide +kernel
theorem dL_2011 : decode code 2011 = .ok (.iload_n 3, 1) := by decide +kernel
theorem dL_2012 : decode code 2012 = .ok (.iconst 2, 1) := by decide +kernel
theorem dL_2013 : decode code 2013 = .ok (.iadd, 1) := by decide +kernel
theorem dL_2014 : decode code 2014 = .ok (.iaload, 1) := by decide +kernel
theorem dL_2015 : decode code 2015 = .ok (.invokevirtual 217, 3) := by decide +kernel
theorem dL_2018 : decode code 2018 = .ok (.if_icmp .eq 407, 3) := by decide +kernel
theorem dL_2023 : decode code 2023 = .ok (.aload_n 1, 1) := by decide +kernel
theorem dL_2024 : decode code 2024 = .ok (.aload_n 0, 1) := by decide +kernel
theorem dL_2025 : decode code 2025 = .ok (.iload_n 3, 1) := by decide +kernel
theorem dL_2026 : decode code 2026 = .ok (.iconst 1, 1) := by decide +kernel
theorem dL_2027 : decode code 2027 = .ok (.iadd, 1) := by decide +kernel
theorem dL_2028 : decode code 2028 = .ok (.iaload, 1) := by decide +kernel
theorem dL_2029 : decode code 2029 = .ok (.invokevirtual 218, 3) := by decide +kernel
theorem dL_2032 : decode code 2032 = .ok (.aload_n 2, 1) := by decide +kernel
theorem dL_2033 : decode code 2033 = .ok (.aload_n 0, 1) := by decide +kernel
theorem dL_2034 : decode code 2034 = .ok (.iload_n 3, 1) := by decide +kernel
theorem dL_2035 : decode code 2035 = .ok (.iconst 1, 1) := by decide +kernel
theorem dL_2036 : decode code 2036 = .ok (.iadd, 1) := by decide +kernel
theorem dL_2037 : decode code 2037 = .ok (.iaload, 1) := by decide +kernel
theorem dL_2038 : decode code 2038 = .ok (.invokevirtual 221, 3) := by decide +kernel
theorem dL_2041 : decode code 2041 = .ok (.if_icmp .eq 384, 3) := by decide +kernel
theorem dL_2046 : decode code 2046 = .ok (.aload_n 1, 1) := by decide +kernel
theorem dL_2047 : decode code 2047 = .ok (.aload_n 0, 1) := by decide +kernel
theorem dL_2048 : decode code 2048 = .ok (.iload_n 3, 1) := by decide +kernel
theorem dL_2049 : decode code 2049 = .ok (.iconst 1, 1) := by decide +kernel
theorem dL_2050 : decode code 2050 = .ok (.iadd, 1) := by decide +kernel
theorem dL_2051 : decode code 2051 = .ok (.iaload, 1) := by decide +kernel
theorem dL_2052 : decode code 2052 = .ok (.aload_n 0, 1) := by decide +kernel
theorem dL_2053 : decode code 2053 = .ok (.iload_n 3, 1) := by decide +kernel
theorem dL_2054 : decode code 2054 = .ok (.iconst 2, 1) := by decide +kernel
theorem dL_2055 : decode code 2055 = .ok (.iadd, 1) := by decide +kernel
theorem dL_2056 : decode code 2056 = .ok (.iaload, 1) := by decide +kernel
theorem dL_2057 : decode code 2057 = .ok (.invokevirtual 222, 3) := by decide +kernel
theorem dL_2060 : decode code 2060 = .ok (.aload_n 2, 1) := by decide +kernel
theorem dL_2061 : decode code 2061 = .ok (.aload_n 0, 1) := by decide +kernel
theorem dL_2062 : decode code 2062 = .ok (.iload_n 3, 1) := by decide +kernel
theorem dL_2063 : decode code 2063 = .ok (.iconst 1, 1) := by decide +kernel
theorem dL_2064 : decode code 2064 = .ok (.iadd, 1) := by decide +kernel
theorem dL_2065 : decode code 2065 = .ok (.iaload, 1) := by decide +kernel
theorem dL_2066 : decode code 2066 = .ok (.aload_n 0, 1) := by decide +kernel
theorem dL_2067 : decode code 2067 = .ok (.iload_n 3, 1) := by decide +kernel
theorem dL_2068 : decode code 2068 = .ok (.iconst 2, 1) := by decide +kernel
theorem dL_2069 : decode code 2069 = .ok (.iadd, 1) := by decide +kernel
theorem dL_2070 : decode code 2070 = .ok (.iaload, 1) := by decide +kernel
theorem dL_2071 : decode code 2071 = .ok (.invokevirtual 225, 3) := by decide +kernel
theorem dL_2074 : decode code 2074 = .ok (.if_icmp .eq 351, 3) := by decide +kernel
theorem dL_2079 : decode code 2079 = .ok (.aload_n 1, 1) := by decide +kernel
theorem dL_2080 : decode code 2080 = .ok (.aload_n 0, 1) := by decide +kernel
theorem dL_2081 : decode code 2081 = .ok (.iload_n 3, 1) := by decide +kernel
theorem dL_2082 : decode code 2082 = .ok (.iconst 1, 1) := by decide +kernel
theorem dL_2083 : decode code 2083 = .ok (.iadd, 1) := by decide +kernel
theorem dL_2084 : decode code 2084 = .ok (.iaload, 1) := by decide +kernel
theorem dL_2085 : decode code 2085 = .ok (.aload_n 0, 1) := by decide +kernel
theorem dL_2086 : decode code 2086 = .ok (.iload_n 3, 1) := by decide +kernel
theorem dL_2087 : decode code 2087 = .ok (.iconst 2, 1) := by decide +kernel
theorem dL_2088 : decode code 2088 = .ok (.iadd, 1) := by decide +kernel
theorem dL_2089 : decode code 2089 = .ok (.iaload, 1) := by decide +kernel
theorem dL_2090 : decode code 2090 = .ok (.aload_n 0, 1) := by decide +kernel
theorem dL_2091 : decode code 2091 = .ok (.iload_n 3, 1) := by decide +kernel
theorem dL_2092 : decode code 2092 = .ok (.iconst 3, 1) := by decide +kernel
theorem dL_2093 : decode code 2093 = .ok (.iadd, 1) := by decide +kernel
theorem dL_2094 : decode code 2094 = .ok (.iaload, 1) := by decide +kernel
theorem dL_2095 : decode code 2095 = .ok (.aload_n 0, 1) := by decide +kernel
theorem dL_2096 : decode code 2096 = .ok (.iload_n 3, 1) := by decide +kernel
theorem dL_2097 : decode code 2097 = .ok (.iconst 4, 1) := by decide +kernel
theorem dL_2098 : decode code 2098 = .ok (.iadd, 1) := by decide +kernel
theorem dL_2099 : decode code 2099 = .ok (.iaload, 1) := by decide +kernel
theorem dL_2100 : decode code 2100 = .ok (.invokevirtual 226, 3) := by decide +kernel
theorem dL_2103 : decode code 2103 = .ok (.aload_n 2, 1) := by decide +kernel
theorem dL_2104 : decode code 2104 = .ok (.aload_n 0, 1) := by decide +kernel
theorem dL_2105 : decode code 2105 = .ok (.iload_n 3, 1) := by decide +kernel
theorem dL_2106 : decode code 2106 = .ok (.iconst 1, 1) := by decide +kernel
theorem dL_2107 : decode code 2107 = .ok (.iadd, 1) := by decide +kernel
theorem dL_2108 : decode code 2108 = .ok (.iaload, 1) := by decide +kernel
theorem dL_2109 : decode code 2109 = .ok (.aload_n 0, 1) := by decide +kernel
theorem dL_2110 : decode code 2110 = .ok (.iload_n 3, 1) := by decide +kernel
theorem dL_2111 : decode code 2111 = .ok (.iconst 2, 1) := by decide +kernel
theorem dL_2112 : decode code 2112 = .ok (.iadd, 1) := by decide +kernel
theorem dL_2113 : decode code 2113 = .ok (.iaload, 1) := by decide +kernel
theorem dL_2114 : decode code 2114 = .ok (.aload_n 0, 1) := by decide +kernel
theorem dL_2115 : decode code 2115 = .ok (.iload_n 3, 1) := by decide +kernel
theorem dL_2116 : decode code 2116 = .ok (.iconst 3, 1) := by decide +kernel
theorem dL_2117 : decode code 2117 = .ok (.iadd, 1) := by decide +kernel
theorem dL_2118 : decode code 2118 = .ok (.iaload, 1) := by decide +kernel
theorem dL_2119 : decode code 2119 = .ok (.aload_n 0, 1) := by decide +kernel
theorem dL_2120 : decode code 2120 = .ok (.iload_n 3, 1) := by decide +kernel
theorem dL_2121 : decode code 2121 = .ok (.iconst 4, 1) := by decide +kernel
theorem dL_2122 : decode code 2122 = .ok (.iadd, 1) := by decide +kernel
theorem dL_2123 : decode code 2123 = .ok (.iaload, 1) := by decide +kernel
theorem dL_2124 : decode code 2124 = .ok (.invokevirtual 229, 3) := by decide +kernel
theorem dL_2127 : decode code 2127 = .ok (.if_icmp .eq 298, 3) := by decide +kernel
theorem dL_2132 : decode code 2132 = .ok (.aload_n 1, 1) := by decide +kernel
theorem dL_2133 : decode code 2133 = .ok (.aload_n 0, 1) := by decide +kernel
theorem dL_2134 : decode code 2134 = .ok (.iload_n 3, 1) := by decide +kernel
theorem dL_2135 : decode code 2135 = .ok (.iconst 1, 1) := by decide +kernel
theorem dL_2136 : decode code 2136 = .ok (.iadd, 1) := by decide +kernel
theorem dL_2137 : decode code 2137 = .ok (.iaload, 1) := by decide +kernel
theorem dL_2138 : decode code 2138 = .ok (.aload_n 0, 1) := by decide +kernel
theorem dL_2139 : decode code 2139 = .ok (.iload_n 3, 1) := by decide +kernel
theorem dL_2140 : decode code 2140 = .ok (.iconst 2, 1) := by decide +kernel
theorem dL_2141 : decode code 2141 = .ok (.iadd, 1) := by decide +kernel
theorem dL_2142 : decode code 2142 = .ok (.iaload, 1) := by decide +kernel
theorem dL_2143 : decode code 2143 = .ok (.aload_n 0, 1) := by decide +kernel
theorem dL_2144 : decode code 2144 = .ok (.iload_n 3, 1) := by decide +kernel
theorem dL_2145 : decode code 2145 = .ok (.iconst 3, 1) := by decide +kernel
theorem dL_2146 : decode code 2146 = .ok (.iadd, 1) := by decide +kernel
theorem dL_2147 : decode code 2147 = .ok (.iaload, 1) := by decide +kernel
theorem dL_2148 : decode code 2148 = .ok (.aload_n 0, 1) := by decide +kernel
theorem dL_2149 : decode code 2149 = .ok (.iload_n 3, 1) := by decide +kernel
theorem dL_2150 : decode code 2150 = .ok (.iconst 4, 1) := by decide +kernel
theorem dL_2151 : decode code 2151 = .ok (.iadd, 1) := by decide +kernel
theorem dL_2152 : decode code 2152 = .ok (.iaload, 1) := by decide +kernel
theorem dL_2153 : decode code 2153 = .ok (.invokevirtual 230, 3) := by decide +kernel
theorem dL_2156 : decode code 2156 = .ok (.aload_n 2, 1) := by decide +kernel
theorem dL_2157 : decode code 2157 = .ok (.aload_n 0, 1) := by decide +kernel
theorem dL_2158 : decode code 2158 = .ok (.iload_n 3, 1) := by decide +kernel
theorem dL_2159 : decode code 2159 = .ok (.iconst 1, 1) := by decide +kernel
theorem dL_2160 : decode code 2160 = .ok (.iadd, 1) := by decide +kernel
theorem dL_2161 : decode code 2161 = .ok (.iaload, 1) := by decide +kernel
theorem dL_2162 : decode code 2162 = .ok (.aload_n 0, 1) := by decide +kernel
theorem dL_2163 : decode code 2163 = .ok (.iload_n 3, 1) := by decide +kernel
theorem dL_2164 : decode code 2164 = .ok (.iconst 2, 1) := by decide +kernel
theorem dL_2165 : decode code 2165 = .ok (.iadd, 1) := by decide +kernel
theorem dL_2166 : decode code 2166 = .ok (.iaload, 1) := by decide +kernel
theorem dL_2167 : decode code 2167 = .ok (.aload_n 0, 1) := by decide +kernel
theorem dL_2168 : decode code 2168 = .ok (.iload_n 3, 1) := by decide +kernel
theorem dL_2169 : decode code 2169 = .ok (.iconst 3, 1) := by decide +kernel
theorem dL_2170 : decode code 2170 = .ok (.iadd, 1) := by decide +kernel
theorem dL_2171 : decode code 2171 = .ok (.iaload, 1) := by decide +kernel
theorem dL_2172 : decode code 2172 = .ok (.aload_n 0, 1) := by decide +kernel
theorem dL_2173 : decode code 2173 = .ok (.iload_n 3, 1) := by decide +kernel
theorem dL_2174 : decode code 2174 = .ok (.iconst 4, 1) := by decide +kernel
theorem dL_2175 : decode code 2175 = .ok (.iadd, 1) := by decide +kernel
theorem dL_2176 : decode code 2176 = .ok (.iaload, 1) := by decide +kernel
theorem dL_2177 : decode code 2177 = .ok (.invokevirtual 233, 3) := by decide +kernel
theorem dL_2180 : decode code 2180 = .ok (.if_icmp .eq 245, 3) := by decide +kernel
theorem dL_2185 : decode code 2185 = .ok (.aload_n 1, 1) := by decide +kernel
theorem dL_2186 : decode code 2186 = .ok (.aload_n 0, 1) := by decide +kernel
theorem dL_2187 : decode code 2187 = .ok (.iload_n 3, 1) := by decide +kernel
theorem dL_2188 : decode code 2188 = .ok (.iconst 1, 1) := by decide +kernel
theorem dL_2189 : decode code 2189 = .ok (.iadd, 1) := by decide +kernel
theorem dL_2190 : decode code 2190 = .ok (.iaload, 1) := by decide +kernel
theorem dL_2191 : decode code 2191 = .ok (.aload_n 0, 1) := by decide +kernel
theorem dL_2192 : decode code 2192 = .ok (.iload_n 3, 1) := by decide +kernel
theorem dL_2193 : decode code 2193 = .ok (.iconst 2, 1) := by decide +kernel
theorem dL_2194 : decode code 2194 = .ok (.iadd, 1) := by decide +kernel
theorem dL_2195 : decode code 2195 = .ok (.iaload, 1) := by decide +kernel
theorem dL_2196 : decode code 2196 = .ok (.aload_n 0, 1) := by decide +kernel
theorem dL_2197 : decode code 2197 = .ok (.iload_n 3, 1) := by decide +kernel
theorem dL_2198 : decode code 2198 = .ok (.iconst 3, 1) := by decide +kernel
theorem dL_2199 : decode code 2199 = .ok (.iadd, 1) := by decide +kernel
theorem dL_2200 : decode code 2200 = .ok (.iaload, 1) := by decide +kernel
theorem dL_2201 : decode code 2201 = .ok (.aload_n 0, 1) := by decide +kernel
theorem dL_2202 : decode code 2202 = .ok (.iload_n 3, 1) := by decide +kernel
theorem dL_2203 : decode code 2203 = .ok (.iconst 4, 1) := by decide +kernel
theorem dL_2204 : decode code 2204 = .ok (.iadd, 1) := by decide +kernel
theorem dL_2205 : decode code 2205 = .ok (.iaload, 1) := by decide +kernel
theorem dL_2206 : decode code 2206 = .ok (.invokevirtual 234, 3) := by decide +kernel
theorem dL_2209 : decode code 2209 = .ok (.aload_n 2, 1) := by decide +kernel
theorem dL_2210 : decode code 2210 = .ok (.aload_n 0, 1) := by decide +kernel
theorem dL_2211 : decode code 2211 = .ok (.iload_n 3, 1) := by decide +kernel
theorem dL_2212 : decode code 2212 = .ok (.iconst 1, 1) := by decide +kernel
theorem dL_2213 : decode code 2213 = .ok (.iadd, 1) := by decide +kernel
theorem dL_2214 : decode code 2214 = .ok (.iaload, 1) := by decide +kernel
theorem dL_2215 : decode code 2215 = .ok (.aload_n 0, 1) := by decide +kernel
theorem dL_2216 : decode code 2216 = .ok (.iload_n 3, 1) := by decide +kernel
theorem dL_2217 : decode code 2217 = .ok (.iconst 2, 1) := by decide +kernel
theorem dL_2218 : decode code 2218 = .ok (.iadd, 1) := by decide +kernel
theorem dL_2219 : decode code 2219 = .ok (.iaload, 1) := by decide +kernel
theorem dL_2220 : decode code 2220 = .ok (.aload_n 0, 1) := by decide +kernel
theorem dL_2221 : decode code 2221 = .ok (.iload_n 3, 1) := by decide +kernel
theorem dL_2222 : decode code 2222 = .ok (.iconst 3, 1) := by decide +kernel
theorem dL_2223 : decode code 2223 = .ok (.iadd, 1) := by decide +kernel
theorem dL_2224 : decode code 2224 = .ok (.iaload, 1) := by decide +kernel
theorem dL_2225 : decode code 2225 = .ok (.aload_n 0, 1) := by decide +kernel
theorem dL_2226 : decode code 2226 = .ok (.iload_n 3, 1) := by decide +kernel
theorem dL_2227 : decode code 2227 = .ok (.iconst 4, 1) := by decide +kernel
theorem dL_2228 : decode code 2228 = .ok (.iadd, 1) := by decide +kernel
theorem dL_2229 : decode code 2229 = .ok (.iaload, 1) := by decide +kernel
theorem dL_2230 : decode code 2230 = .ok (.invokevirtual 237, 3) := by decide +kernel
theorem dL_2233 : decode code 2233 = .ok (.if_icmp .eq 192, 3) := by decide +kernel
theorem dL_2238 : decode code 2238 = .ok (.aload_n 1, 1) := by decide +kernel
theorem dL_2239 : decode code 2239 = .ok (.invokevirtual 238, 3) := by decide +kernel
theorem dL_2242 : decode code 2242 = .ok (.aload_n 2, 1) := by decide +kernel
theorem dL_2243 : decode code 2243 = .ok (.invokevirtual 241, 3) := by decide +kernel
theorem dL_2246 : decode code 2246 = .ok (.if_icmp .eq 179, 3) := by decide +kernel
theorem dL_2251 : decode code 2251 = .ok (.aload_n 1, 1) := by decide +kernel
theorem dL_2252 : decode code 2252 = .ok (.aload_n 0, 1) := by decide +kernel
theorem dL_2253 : decode code 2253 = .ok (.iload_n 3, 1) := by decide +kernel
theorem dL_2254 : decode code 2254 = .ok (.iconst 1, 1) := by decide +kernel
theorem dL_2255 : decode code 2255 = .ok (.iadd, 1) := by decide +kernel
theorem dL_2256 : decode code 2256 = .ok (.iaload, 1) := by decide +kernel
theorem dL_2257 : decode code 2257 = .ok (.invokevirtual 242, 3) := by decide +kernel
theorem dL_2260 : decode code 2260 = .ok (.aload_n 2, 1) := by decide +kernel
theorem dL_2261 : decode code 2261 = .ok (.aload_n 0, 1) := by decide +kernel
theorem dL_2262 : decode code 2262 = .ok (.iload_n 3, 1) := by decide +kernel
theorem dL_2263 : decode code 2263 = .ok (.iconst 1, 1) := by decide +kernel
theorem dL_2264 : decode code 2264 = .ok (.iadd, 1) := by decide +kernel
theorem dL_2265 : decode code 2265 = .ok (.iaload, 1) := by decide +kernel
theorem dL_2266 : decode code 2266 = .ok (.invokevirtual 245, 3) := by decide +kernel
theorem dL_2269 : decode code 2269 = .ok (.if_icmp .eq 156, 3) := by decide +kernel
theorem dL_2274 : decode code 2274 = .ok (.aload_n 1, 1) := by decide +kernel
theorem dL_2275 : decode code 2275 = .ok (.aload_n 0, 1) := by decide +kernel
theorem dL_2276 : decode code 2276 = .ok (.iload_n 3, 1) := by decide +kernel
theorem dL_2277 : decode code 2277 = .ok (.iconst 1, 1) := by decide +kernel
theorem dL_2278 : decode code 2278 = .ok (.iadd, 1) := by decide +kernel
theorem dL_2279 : decode code 2279 = .ok (.iaload, 1) := by decide +kernel
theorem dL_2280 : decode code 2280 = .ok (.invokevirtual 246, 3) := by decide +kernel
theorem dL_2283 : decode code 2283 = .ok (.aload_n 2, 1) := by decide +kernel
theorem dL_2284 : decode code 2284 = .ok (.aload_n 0, 1) := by decide +kernel
theorem dL_2285 : decode code 2285 = .ok (.iload_n 3, 1) := by decide +kernel
theorem dL_2286 : decode code 2286 = .ok (.iconst 1, 1) := by decide +kernel
theorem dL_2287 : decode code 2287 = .ok (.iadd, 1) := by decide +kernel
theorem dL_2288 : decode code 2288 = .ok (.iaload, 1) := by decide +kernel
theorem dL_2289 : decode code 2289 = .ok (.invokevirtual 249, 3) := by decide +kernel
theorem dL_2292 : decode code 2292 = .ok (.if_icmp .eq 133, 3) := by decide +kernel
theorem dL_2297 : decode code 2297 = .ok (.aload_n 1, 1) := by decide +kernel
theorem dL_2298 : decode code 2298 = .ok (.aload_n 0, 1) := by decide +kernel
theorem dL_2299 : decode code 2299 = .ok (.iload_n 3, 1) := by decide +kernel
theorem dL_2300 : decode code 2300 = .ok (.iconst 1, 1) := by decide +kernel
theorem dL_2301 : decode code 2301 = .ok (.iadd, 1) := by decide +kernel
theorem dL_2302 : decode code 2302 = .ok (.iaload, 1) := by decide +kernel
theorem dL_2303 : decode code 2303 = .ok (.invokevirtual 250, 3) := by decide +kernel
theorem dL_2306 : decode code 2306 = .ok (.aload_n 2, 1) := by decide +kernel
theorem dL_2307 : decode code 2307 = .ok (.aload_n 0, 1) := by decide +kernel
theorem dL_2308 : decode code 2308 = .ok (.iload_n 3, 1) := by decide +kernel
theorem dL_2309 : decode code 2309 = .ok (.iconst 1, 1) := by decide +kernel
theorem dL_2310 : decode code 2310 = .ok (.iadd, 1) := by decide +kernel
theorem dL_2311 : decode code 2311 = .ok (.iaload, 1) := by decide +kernel
theorem dL_2312 : decode code 2312 = .ok (.invokevirtual 253, 3) := by decide +kernel
theorem dL_2315 : decode code 2315 = .ok (.if_icmp .eq 110, 3) := by decide +kernel
theorem dL_2320 : decode code 2320 = .ok (.aload_n 1, 1) := by decide +kernel
theorem dL_2321 : decode code 2321 = .ok (.aload_n 0, 1) := by decide +kernel
theorem dL_2322 : decode code 2322 = .ok (.iload_n 3, 1) := by decide +kernel
theorem dL_2323 : decode code 2323 = .ok (.iconst 1, 1) := by decide +kernel
theorem dL_2324 : decode code 2324 = .ok (.iadd, 1) := by decide +kernel
theorem dL_2325 : decode code 2325 = .ok (.iaload, 1) := by decide +kernel
theorem dL_2326 : decode code 2326 = .ok (.invokevirtual 254, 3) := by decide +kernel
theorem dL_2329 : decode code 2329 = .ok (.aload_n 2, 1) := by decide +kernel
theorem dL_2330 : decode code 2330 = .ok (.aload_n 0, 1) := by decide +kernel
theorem dL_2331 : decode code 2331 = .ok (.iload_n 3, 1) := by decide +kernel
theorem dL_2332 : decode code 2332 = .ok (.iconst 1, 1) := by decide +kernel
theorem dL_2333 : decode code 2333 = .ok (.iadd, 1) := by decide +kernel
theorem dL_2334 : decode code 2334 = .ok (.iaload, 1) := by decide +kernel
theorem dL_2335 : decode code 2335 = .ok (.invokevirtual 257, 3) := by decide +kernel
theorem dL_2338 : decode code 2338 = .ok (.if_icmp .eq 87, 3) := by decide +kernel
theorem dL_2343 : decode code 2343 = .ok (.aload_n 1, 1) := by decide +kernel
theorem dL_2344 : decode code 2344 = .ok (.aload_n 0, 1) := by decide +kernel
theorem dL_2345 : decode code 2345 = .ok (.iload_n 3, 1) := by decide +kernel
theorem dL_2346 : decode code 2346 = .ok (.iconst 1, 1) := by decide +kernel
theorem dL_2347 : decode code 2347 = .ok (.iadd, 1) := by decide +kernel
theorem dL_2348 : decode code 2348 = .ok (.iaload, 1) := by decide +kernel
theorem dL_2349 : decode code 2349 = .ok (.invokevirtual 258, 3) := by decide +kernel
theorem dL_2352 : decode code 2352 = .ok (.aload_n 2, 1) := by decide +kernel
theorem dL_2353 : decode code 2353 = .ok (.aload_n 0, 1) := by decide +kernel
theorem dL_2354 : decode code 2354 = .ok (.iload_n 3, 1) := by decide +kernel
theorem dL_2355 : decode code 2355 = .ok (.iconst 1, 1) := by decide +kernel
theorem dL_2356 : decode code 2356 = .ok (.iadd, 1) := by decide +kernel
theorem dL_2357 : decode code 2357 = .ok (.iaload, 1) := by decide +kernel
theorem dL_2358 : decode code 2358 = .ok (.invokevirtual 261, 3) := by decide +kernel
theorem dL_2361 : decode code 2361 = .ok (.if_icmp .eq 64, 3) := by decide +kernel
theorem dL_2366 : decode code 2366 = .ok (.aload_n 1, 1) := by decide +kernel
theorem dL_2367 : decode code 2367 = .ok (.aload_n 0, 1) := by decide +kernel
theorem dL_2368 : decode code 2368 = .ok (.iload_n 3, 1) := by decide +kernel
theorem dL_2369 : decode code 2369 = .ok (.iconst 1, 1) := by decide +kernel
theorem dL_2370 : decode code 2370 = .ok (.iadd, 1) := by decide +kernel
theorem dL_2371 : decode code 2371 = .ok (.iaload, 1) := by decide +kernel
theorem dL_2372 : decode code 2372 = .ok (.aload_n 0, 1) := by decide +kernel
theorem dL_2373 : decode code 2373 = .ok (.iload_n 3, 1) := by decide +kernel
theorem dL_2374 : decode code 2374 = .ok (.iconst 2, 1) := by decide +kernel
theorem dL_2375 : decode code 2375 = .ok (.iadd, 1) := by decide +kernel
theorem dL_2376 : decode code 2376 = .ok (.iaload, 1) := by decide +kernel
theorem dL_2377 : decode code 2377 = .ok (.invokevirtual 262, 3) := by decide +kernel
theorem dL_2380 : decode code 2380 = .ok (.aload_n 2, 1) := by decide +kernel
theorem dL_2381 : decode code 2381 = .ok (.aload_n 0, 1) := by decide +kernel
theorem dL_2382 : decode code 2382 = .ok (.iload_n 3, 1) := by decide +kernel
theorem dL_2383 : decode code 2383 = .ok (.iconst 1, 1) := by decide +kernel
theorem dL_2384 : decode code 2384 = .ok (.iadd, 1) := by decide +kernel
theorem dL_2385 : decode code 2385 = .ok (.iaload, 1) := by decide +kernel
theorem dL_2386 : decode code 2386 = .ok (.aload_n 0, 1) := by decide +kernel
theorem dL_2387 : decode code 2387 = .ok (.iload_n 3, 1) := by decide +kernel
theorem dL_2388 : decode code 2388 = .ok (.iconst 2, 1) := by decide +kernel
theorem dL_2389 : decode code 2389 = .ok (.iadd, 1) := by decide +kernel
theorem dL_2390 : decode code 2390 = .ok (.iaload, 1) := by decide +kernel
theorem dL_2391 : decode code 2391 = .ok (.invokevirtual 265, 3) := by decide +kernel
theorem dL_2394 : decode code 2394 = .ok (.if_icmp .eq 31, 3) := by decide +kernel
theorem dL_2399 : decode code 2399 = .ok (.aload_n 1, 1) := by decide +kernel
theorem dL_2400 : decode code 2400 = .ok (.invokevirtual 266, 3) := by decide +kernel
theorem dL_2403 : decode code 2403 = .ok (.aload_n 2, 1) := by decide +kernel
theorem dL_2404 : decode code 2404 = .ok (.invokevirtual 269, 3) := by decide +kernel
theorem dL_2407 : decode code 2407 = .ok (.if_icmp .eq 18, 3) := by decide +kernel
theorem dL_2412 : decode code 2412 = .ok (.aload_n 1, 1) := by decide +kernel
theorem dL_2413 : decode code 2413 = .ok (.invokevirtual 270, 3) := by decide +kernel
theorem dL_2416 : decode code 2416 = .ok (.aload_n 2, 1) := by decide +kernel
theorem dL_2417 : decode code 2417 = .ok (.invokevirtual 273, 3) := by decide +kernel
theorem dL_2420 : decode code 2420 = .ok (.if_icmp .eq 5, 3) := by decide +kernel
theorem dL_2425 : decode code 2425 = .ok (.iinc 3 6, 3) := by decide +kernel
theorem dL_2428 : decode code 2428 = .ok (.goto (-2410), 3) := by decide +kernel
theorem dL_2431 : decode code 2431 = .ok (.iconst 1, 1) := by decide +kernel
theorem dL_2432 : decode code 2432 = .ok (.ireturn, 1) := by decide +kernel
