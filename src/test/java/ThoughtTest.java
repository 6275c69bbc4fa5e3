import java.util.ArrayDeque;
import java.util.ArrayList;
import java.util.HashMap;
import java.util.List;
import java.util.Map;
import java.util.Random;

/** Promises 16 to 37: what is asked in thought, against plain ways of finding the same. */
public final class ThoughtTest extends Due {
    public static void main(String[] args) {
        breathsAndLeasts();
        heads();
        saidAndDigits();
        calls();
        hics();
        gossip();
        terms();
        tongues();
        squares();
        trees();
        stairs();
        games();
        end("thought");
    }

    private static void breathsAndLeasts() {
        Random random = new Random(1);
        for (int round = 0; round < 300; round++) {
            HiccupLane x = new HiccupLane();
            int n = round % 17;
            int spread = round % 3 == 0 ? 2 : 50;
            int[] row = new int[n];
            for (int i = 0; i < n; i++) {
                row[i] = random.nextInt(2 * spread + 1) - spread;
                due("breath", x.breath(row[i]), i + 1);
            }
            due("breath(51)", x.breath(51), -100);
            due("breath(-51)", x.breath(-51), -100);
            if (n == 16) {
                due("the 17th", x.breath(0), -100);
            }
            due("held(0)", x.held(0), greatest(row, false));
            due("held(1)", x.held(1), greatest(row, true));
            due("held(-1)", x.held(-1), -1000);
            due("held(2)", x.held(2), -1000);
            for (int i = 0; i < n; i++) {
                leastOf(x, row, i);
            }
            for (int what = 0; what < 3; what++) {
                due("least behind", x.least(n, what), -1);
                due("least ahead", x.least(-1, what), -1);
            }
            due("breath(-100)", x.breath(-100), 0);
            due("held of none", x.held(0), 0);
            due("held of none", x.held(1), 0);
            due("least of none", x.least(0, 2), -1);
            due("breath(50)", x.breath(50), 1);
            due("breath(-50)", x.breath(-50), 2);
        }
    }

    private static int greatest(int[] row, boolean leaving) {
        int best = row.length == 0 ? 0 : Integer.MIN_VALUE;
        for (int i = 0; i < row.length; i++) {
            for (int j = i; j < row.length; j++) {
                for (int out = i - 1; out <= j; out++) {
                    int left = j - i + 1 - (out >= i ? 1 : 0);
                    if (left == 0 || out >= i && !leaving) {
                        continue;
                    }
                    int sum = 0;
                    for (int k = i; k <= j; k++) {
                        sum += k == out ? 0 : row[k];
                    }
                    best = Math.max(best, sum);
                }
            }
        }
        return best;
    }

    private static void leastOf(HiccupLane x, int[] row, int i) {
        int left = -1;
        int right = -1;
        for (int j = 0; j < row.length; j++) {
            if (row[j] < row[i]) {
                if (j < i) {
                    left = j;
                } else if (right == -1) {
                    right = j;
                }
            }
        }
        int count = 0;
        for (int from = 0; from <= i; from++) {
            for (int till = i; till < row.length; till++) {
                boolean fits = true;
                for (int k = from; k <= till; k++) {
                    fits &= row[k] >= row[i] && !(k < i && row[k] == row[i]);
                }
                count += fits ? 1 : 0;
            }
        }
        due("least left", x.least(i, 0), left);
        due("least right", x.least(i, 1), right);
        due("least rows", x.least(i, 2), count);
        due("least 3", x.least(i, 3), -1);
        due("least -1", x.least(i, -1), -1);
    }

    private static int turned(int n) {
        String from = "01689";
        String to = "01986";
        StringBuilder out = new StringBuilder();
        for (char c : Integer.toString(n).toCharArray()) {
            int at = from.indexOf(c);
            if (at < 0) {
                return -1;
            }
            out.insert(0, to.charAt(at));
        }
        return Integer.parseInt(out.toString());
    }

    private static void heads() {
        HiccupLane x = new HiccupLane();
        int above = 100001;
        int[] next = new int[100000];
        for (int n = 99999; n >= 0; n--) {
            next[n] = above;
            if (turned(n) == n) {
                above = n;
            }
        }
        int count = 0;
        for (int n = 0; n <= 99999; n++) {
            if (n % 100 == 0) {
                x = new HiccupLane();
            }
            count += turned(n) == n ? 1 : 0;
            due("heads " + n, x.heads(n, 0), turned(n));
            if (n % 37 == 0 || turned(n) == n || n > 99900 || n < 1200) {
                due("heads above " + n, x.heads(n, 1), next[n]);
                due("heads till " + n, x.heads(n, 2), count);
            }
        }
        x = new HiccupLane();
        for (int what = 0; what < 3; what++) {
            due("heads(-1)", x.heads(-1, what), -1);
            due("heads(100000)", x.heads(100000, what), -1);
        }
        due("heads what", x.heads(1, 3), -1);
        due("heads what", x.heads(1, -1), -1);
    }

    private static void saidAndDigits() {
        HiccupLane x = new HiccupLane();
        int[] counts = new int[10];
        StringBuilder all = new StringBuilder();
        for (int n = 1; n <= 9999; n++) {
            if (n % 30 == 0) {
                x = new HiccupLane();
            }
            String said = Integer.toString(n);
            all.append(said);
            for (char c : said.toCharArray()) {
                counts[c - '0']++;
            }
            for (int d = 0; d < 10; d++) {
                due("said " + n + " " + d, x.said(n, d), counts[d]);
            }
            due("digit last", x.digit(n, all.length() - 1), n % 10);
            due("digit behind", x.digit(n, all.length()), -1);
            due("digit ahead", x.digit(n, -1), -1);
        }
        for (int k = 0; k < all.length(); k++) {
            if (k % 500 == 0) {
                x = new HiccupLane();
            }
            due("digit " + k, x.digit(9999, k), all.charAt(k) - '0');
        }
        x = new HiccupLane();
        due("digit(0, 0)", x.digit(0, 0), -1);
        due("digit(10000, 0)", x.digit(10000, 0), -1);
        due("digit far", x.digit(9999, Integer.MAX_VALUE), -1);
        due("said(0, 1)", x.said(0, 1), -1);
        due("said(10000, 1)", x.said(10000, 1), -1);
        due("said(5, 10)", x.said(5, 10), -1);
        due("said(5, -1)", x.said(5, -1), -1);
    }

    private static void calls() {
        Random random = new Random(2);
        for (int round = 0; round < 400; round++) {
            HiccupLane x = new HiccupLane();
            int n = round % 11;
            int span = round % 2 == 0 ? 12 : 100;
            int[] a = new int[n];
            int[] b = new int[n];
            int[] w = new int[n];
            for (int i = 0; i < n; i++) {
                a[i] = random.nextInt(span - 1);
                b[i] = a[i] + 1 + random.nextInt(span - 1 - a[i]);
                w[i] = 1 + random.nextInt(round % 3 == 0 ? 4 : 99);
                due("call", x.call(a[i], b[i], w[i]), i + 1);
            }
            due("call", x.call(5, 5, 1), -1);
            due("call", x.call(-2, 5, 1), -1);
            due("call", x.call(5, 100, 1), -1);
            due("call", x.call(5, 6, 0), -1);
            due("call", x.call(5, 6, 100), -1);
            if (n == 10) {
                due("the 11th", x.call(0, 1, 1), -1);
            }
            int worth = 0;
            int fewest = 0;
            for (int set = 1; set < 1 << n; set++) {
                int sum = 0;
                boolean fits = true;
                for (int i = 0; i < n; i++) {
                    if ((set >> i & 1) == 1) {
                        sum += w[i];
                        for (int j = 0; j < i; j++) {
                            fits &= (set >> j & 1) == 0 || b[i] <= a[j] || b[j] <= a[i];
                        }
                    }
                }
                int size = Integer.bitCount(set);
                if (fits && (sum > worth || sum == worth && size < fewest)) {
                    worth = sum;
                    fewest = size;
                }
            }
            int minutes = 0;
            int most = 0;
            for (int t = 0; t < 100; t++) {
                int here = 0;
                for (int i = 0; i < n; i++) {
                    here += a[i] <= t && t + 1 <= b[i] ? 1 : 0;
                }
                minutes += here > 0 ? 1 : 0;
                most = Math.max(most, here);
            }
            due("calls(0)", x.calls(0), worth);
            due("calls(1)", x.calls(1), fewest);
            due("calls(2)", x.calls(2), minutes);
            due("calls(3)", x.calls(3), most);
            due("calls(4)", x.calls(4), -1);
            due("calls(-1)", x.calls(-1), -1);
            due("call(NONE)", x.call(-1, 7, 7), 0);
            due("calls(0) of none", x.calls(0), 0);
            due("call(0, 99, 99)", x.call(0, 99, 99), 1);
            due("calls(2)", x.calls(2), 99);
        }
    }

    private static void hics() {
        HiccupLane x = new HiccupLane();
        for (int n = 1; n <= 30; n++) {
            for (int k = 0; k <= n; k++) {
                x = new HiccupLane();
                List<Integer> beats = new ArrayList<>();
                for (int i = 0; i < n; i++) {
                    boolean has = i * k % n < k;
                    due("hics", x.hics(k, n, i), has ? 1 : 0);
                    if (has) {
                        beats.add(i);
                    }
                }
                int longest = 0;
                for (int i = 0; i < beats.size(); i++) {
                    int to = i + 1 < beats.size() ? beats.get(i + 1) : beats.get(0) + n;
                    longest = Math.max(longest, to - beats.get(i));
                }
                due("hics way", x.hics(k, n, 100), longest);
                due("hics behind", x.hics(k, n, n), -1);
                due("hics ahead", x.hics(k, n, -1), -1);
                due("hics 101", x.hics(k, n, 101), -1);
            }
            due("hics k", x.hics(n + 1, n, 0), -1);
            due("hics k", x.hics(-1, n, 0), -1);
            due("hics k", x.hics(n + 1, n, 100), -1);
        }
        due("hics n", x.hics(0, 0, 100), -1);
        due("hics n", x.hics(3, 31, 0), -1);
        due("hics n", x.hics(3, 31, 100), -1);
    }

    private static void gossip() {
        Random random = new Random(3);
        for (int round = 0; round < 500; round++) {
            HiccupLane x = new HiccupLane();
            int n = round % 15;
            int[][] most = new int[6][6];
            int[][] ways = new int[6][6];
            for (int i = 0; i < n; i++) {
                int a = random.nextInt(6);
                int b = (a + 1 + random.nextInt(5)) % 6;
                int c = 1 + random.nextInt(20);
                most[a][b] += c;
                ways[a][b]++;
                due("way", x.way(a, b, c), i + 1);
            }
            due("way", x.way(0, 0, 1), -1);
            due("way", x.way(6, 0, 1), -1);
            due("way", x.way(0, 6, 1), -1);
            due("way", x.way(0, -1, 1), -1);
            due("way", x.way(-2, 1, 1), -1);
            due("way", x.way(0, 1, 0), -1);
            due("way", x.way(0, 1, 21), -1);
            if (n == 14) {
                due("the 15th", x.way(0, 1, 1), -1);
            }
            for (int a = 0; a < 6; a++) {
                for (int b = 0; b < 6; b++) {
                    due("gossip 0", x.gossip(a, b, 0), a == b ? -1 : flow(most, a, b));
                    due("gossip 1", x.gossip(a, b, 1), a == b ? -1 : flow(ways, a, b));
                }
            }
            due("gossip 2", x.gossip(0, 1, 2), -1);
            due("gossip -1", x.gossip(0, 1, -1), -1);
            due("gossip far", x.gossip(0, 6, 0), -1);
            due("gossip far", x.gossip(-1, 0, 0), -1);
            due("way(NONE)", x.way(-1, 9, 9), 0);
            due("gossip of none", x.gossip(0, 1, 0), 0);
        }
    }

    private static int flow(int[][] told, int a, int b) {
        int[][] left = new int[6][];
        for (int i = 0; i < 6; i++) {
            left[i] = told[i].clone();
        }
        int flow = 0;
        while (true) {
            int[] from = {-1, -1, -1, -1, -1, -1};
            from[a] = a;
            ArrayDeque<Integer> queue = new ArrayDeque<>();
            queue.add(a);
            while (!queue.isEmpty()) {
                int v = queue.poll();
                for (int u = 0; u < 6; u++) {
                    if (left[v][u] > 0 && from[u] < 0) {
                        from[u] = v;
                        queue.add(u);
                    }
                }
            }
            if (from[b] < 0) {
                return flow;
            }
            for (int v = b; v != a; v = from[v]) {
                left[from[v]][v]--;
                left[v][from[v]]++;
            }
            flow++;
        }
    }

    private static void terms() {
        Random random = new Random(4);
        for (int round = 0; round < 200; round++) {
            HiccupLane x = new HiccupLane();
            int[][] rows = {new int[round % 7], new int[round / 7 % 7]};
            for (int which = 0; which < 2; which++) {
                for (int i = 0; i < rows[which].length; i++) {
                    rows[which][i] = random.nextInt(round % 2 == 0 ? 19 : 3) - (round % 2 == 0 ? 9 : 1);
                    due("term", x.term(which, rows[which][i]), i + 1);
                }
                due("term", x.term(which, 10), -1);
                due("term", x.term(which, -11), -1);
                if (rows[which].length == 6) {
                    due("the 7th", x.term(which, 1), -1);
                }
            }
            int[] product = new int[11];
            for (int i = 0; i < rows[0].length; i++) {
                for (int j = 0; j < rows[1].length; j++) {
                    product[i + j] += rows[0][i] * rows[1][j];
                }
            }
            for (int i = 0; i <= 10; i++) {
                due("product " + (10 + i), x.product(10 + i), product[i]);
            }
            for (int which = 0; which < 2; which++) {
                int zeros = 0;
                for (int at = -9; at <= 9; at++) {
                    int sum = 0;
                    int power = 1;
                    for (int v : rows[which]) {
                        sum += v * power;
                        power *= at;
                    }
                    zeros += sum == 0 ? 1 : 0;
                    due("terms", x.terms(which, at), sum);
                }
                due("product", x.product(which), zeros);
                due("terms far", x.terms(which, 10), -10000000);
                due("terms far", x.terms(which, -10), -10000000);
            }
            due("term which", x.term(2, 1), -1);
            due("term which", x.term(-1, 1), -1);
            due("term which", x.term(2, -10), -1);
            due("terms which", x.terms(2, 1), -10000000);
            due("terms which", x.terms(-1, 1), -10000000);
            for (int which : new int[] {-1, 2, 9, 21}) {
                due("product which", x.product(which), -10000000);
            }
            due("term empty", x.term(0, -10), 0);
            due("terms empty", x.terms(0, 3), 0);
            due("product empty", x.product(0), 19);
            due("product of empty", x.product(10), 0);
            if (rows[1].length > 0) {
                due("the other row stays", x.terms(1, 0), rows[1][0]);
            }
        }
    }

    private static void tongues() {
        HiccupLane x = new HiccupLane();
        for (int n = 1; n <= 9999; n++) {
            x = n % 16 == 0 ? new HiccupLane() : x;
            int leastBase = -1;
            for (int b = 16; b >= 2; b--) {
                String read = Integer.toString(n, b);
                int sum = 0;
                for (char c : read.toCharArray()) {
                    sum += Character.digit(c, 36);
                }
                boolean alike = new StringBuilder(read).reverse().toString().equals(read);
                leastBase = alike ? b : leastBase;
                due("tongues sum", x.tongues(n, b, 0), sum);
                due("tongues alike", x.tongues(n, b, 1), alike ? 1 : 0);
            }
            due("tongues base", x.tongues(n, -7, 2), leastBase);
        }
        x = new HiccupLane();
        for (int what = 0; what < 3; what++) {
            due("tongues n", x.tongues(0, 2, what), -1);
            due("tongues n", x.tongues(10000, 2, what), -1);
        }
        for (int what = 0; what < 2; what++) {
            due("tongues b", x.tongues(5, 1, what), -1);
            due("tongues b", x.tongues(5, 17, what), -1);
            due("tongues b", x.tongues(5, 0, what), -1);
        }
        due("tongues what", x.tongues(5, 2, 3), -1);
        due("tongues what", x.tongues(5, 2, -1), -1);
    }

    private static void squares() {
        HiccupLane x = new HiccupLane();
        int[] few = new int[10000];
        for (int n = 1; n <= 9999; n++) {
            x = n % 200 == 0 ? new HiccupLane() : x;
            few[n] = n;
            for (int r = 1; r * r <= n; r++) {
                few[n] = Math.min(few[n], few[n - r * r] + 1);
            }
            int ways = 0;
            for (int a = 0; a * a <= n; a++) {
                int b = (int) Math.round(Math.sqrt(n - a * a));
                ways += a <= b && a * a + b * b == n ? 1 : 0;
            }
            due("squares few " + n, x.squares(n, 0), few[n]);
            due("squares ways " + n, x.squares(n, 1), ways);
        }
        x = new HiccupLane();
        for (int what = 0; what < 2; what++) {
            due("squares n", x.squares(0, what), -1);
            due("squares n", x.squares(10000, what), -1);
        }
        due("squares what", x.squares(5, 2), -1);
        due("squares what", x.squares(5, -1), -1);
    }

    private static void trees() {
        Random random = new Random(5);
        for (int round = 0; round < 400; round++) {
            HiccupLane x = new HiccupLane();
            int m = round % 7;
            int n = m + 2;
            List<Integer> row = new ArrayList<>();
            boolean fits = true;
            for (int i = 0; i < m; i++) {
                int v = random.nextInt(round % 5 == 0 ? 8 : n);
                fits &= v < n;
                row.add(v);
                due("kin", x.kin(v), i + 1);
            }
            due("kin", x.kin(8), -1);
            due("kin", x.kin(-2), -1);
            if (m == 6) {
                due("the 7th", x.kin(0), -1);
            }
            int[][] far = fits ? distances(row, n) : null;
            for (int v = -1; v <= n; v++) {
                boolean there = fits && v >= 0 && v < n;
                int joined = -1;
                for (int u = -1; u <= n; u++) {
                    boolean both = there && u >= 0 && u < n;
                    due("tree far", x.tree(v, u, 1), both ? far[v][u] : -1);
                    if (both && far[v][u] == 1) {
                        joined = Math.max(joined, 0) + 1;
                    }
                }
                due("tree joined", x.tree(v, 99, 0), joined);
                due("tree what", x.tree(v, 0, 2), -1);
                due("tree what", x.tree(v, 0, -1), -1);
            }
            due("kin(NONE)", x.kin(-1), 0);
            due("tree of two", x.tree(0, 1, 1), 1);
            due("tree of two", x.tree(2, 1, 1), -1);
        }
    }

    private static int[][] distances(List<Integer> told, int n) {
        int[][] far = new int[n][n];
        for (int[] one : far) {
            java.util.Arrays.fill(one, 99);
        }
        List<Integer> row = new ArrayList<>(told);
        List<Integer> left = new ArrayList<>();
        for (int i = 0; i < n; i++) {
            left.add(i);
            far[i][i] = 0;
        }
        while (!row.isEmpty()) {
            Integer leaf = null;
            for (Integer v : left) {
                if (leaf == null && !row.contains(v)) {
                    leaf = v;
                }
            }
            int other = row.remove(0);
            far[leaf][other] = 1;
            far[other][leaf] = 1;
            left.remove(leaf);
        }
        far[left.get(0)][left.get(1)] = 1;
        far[left.get(1)][left.get(0)] = 1;
        for (int k = 0; k < n; k++) {
            for (int i = 0; i < n; i++) {
                for (int j = 0; j < n; j++) {
                    far[i][j] = Math.min(far[i][j], far[i][k] + far[k][j]);
                }
            }
        }
        return far;
    }

    private static void stairs() {
        Random random = new Random(6);
        for (int round = 0; round < 120; round++) {
            int[] told = new int[round % 9];
            for (int i = 0; i < told.length; i++) {
                told[i] = 1 + random.nextInt(round % 2 == 0 ? 40 : 10);
            }
            for (int k = 1; k <= 6; k++) {
                stair(told, k);
            }
        }
    }

    private static void stair(int[] told, int k) {
        HiccupLane x = new HiccupLane();
        boolean[] bad = new boolean[41];
        for (int i = 0; i < told.length; i++) {
            bad[told[i]] = true;
            due("step", x.step(told[i]), i + 1);
        }
        long[] ways = new long[41];
        int[] few = new int[41];
        for (int i = 0; i <= 40; i++) {
            ways[i] = i == 0 ? 1 : 0;
            few[i] = i == 0 ? 0 : 1000;
            for (int go = 1; go <= k && go <= i && !bad[i]; go++) {
                ways[i] += ways[i - go];
                few[i] = Math.min(few[i], few[i - go] + 1);
            }
            due("stair ways", x.stair(i, k, 0), ways[i] % 1000000007L);
            due("stair few", x.stair(i, k, 1), few[i] >= 1000 ? -1 : few[i]);
        }
        due("step(NONE)", x.step(-1), 0);
        due("stair without bad ones", x.stair(5, 2, 0), 8);
        due("step(40)", x.step(40), 1);
        due("stair to a bad one", x.stair(40, 1, 0), 0);
        due("stair to a bad one", x.stair(40, 1, 1), -1);
        due("step(NONE)", x.step(-1), 0);
        due("stair to one no more bad", x.stair(40, 1, 0), 1);
        due("stair to one no more bad", x.stair(40, 1, 1), 40);
    }

    private static void games() {
        Map<String, Boolean> wins = new HashMap<>();
        Random random = new Random(7);
        for (int round = 0; round < 800; round++) {
            HiccupLane x = new HiccupLane();
            int m = round % 5;
            int[] heaps = new int[m];
            int most = round % 3 == 0 ? 1 : round % 3 == 1 ? 3 : 15;
            for (int i = 0; i < m; i++) {
                heaps[i] = random.nextInt(most + 1);
                due("heap", x.heap(heaps[i]), i + 1);
            }
            due("heap", x.heap(16), -1);
            due("heap", x.heap(-2), -1);
            if (m == 4) {
                due("the 5th", x.heap(1), -1);
            }
            int want = -1;
            for (int i = m - 1; i >= 0; i--) {
                for (int take = heaps[i]; take >= 1; take--) {
                    heaps[i] -= take;
                    if (!wins(heaps, wins)) {
                        want = 100 * i + take;
                    }
                    heaps[i] += take;
                }
            }
            due("game", x.game(), want);
            due("heap(NONE)", x.heap(-1), 0);
            due("game of none", x.game(), -1);
            due("heap(2)", x.heap(2), 1);
            due("game of 2", x.game(), 1);
        }
    }

    /** Whether who is to take wins; of no heap left the other one took the last, and lost. */
    private static boolean wins(int[] heaps, Map<String, Boolean> known) {
        int[] sorted = heaps.clone();
        java.util.Arrays.sort(sorted);
        String key = java.util.Arrays.toString(sorted);
        Boolean is = known.get(key);
        if (is != null) {
            return is;
        }
        boolean win = sorted.length == 0 || sorted[sorted.length - 1] == 0;
        for (int i = 0; i < sorted.length && !win; i++) {
            for (int take = 1; take <= sorted[i] && !win; take++) {
                sorted[i] -= take;
                win = !wins(sorted, known);
                sorted[i] += take;
            }
        }
        known.put(key, win);
        return win;
    }
}
