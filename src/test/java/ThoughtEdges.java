/** Promises 16 to 37 and part 4: what each sentence that names a boundary says of it. */
public final class ThoughtEdges extends Due {
    private static final int MOST = Integer.MAX_VALUE;
    private static final int LEAST = Integer.MIN_VALUE;

    public static void main(String[] args) {
        breathsTold();
        heldOfSome();
        heldRefused();
        leastAround();
        leastRefused();
        headsTurned();
        headsAbove();
        headsRefused();
        saidRefused();
        digitsRefused();
        callsTold();
        callsBeside();
        callsOfNone();
        hicsRefused();
        hicsOfNone();
        waysTold();
        gossipRefused();
        gossipTwice();
        termsTold();
        termsOfNone();
        termsRefused();
        productsRefused();
        tonguesRefused();
        tonguesAlike();
        squaresRefused();
        squaresOfTwo();
        kinTold();
        treeRefused();
        treeOfNone();
        leastLeftIsJoined();
        stepsTold();
        stairRefused();
        stairOfNone();
        stairModulo();
        heapsTold();
        gamesLost();
        gameLeast();
        end("the edges of thought");
    }

    /** A row takes so many and no more, each from least to most, and is empty again by what clears it. */
    private static void row(String call, int clears, int most, int refused, int[] good, int[] bad) {
        for (int v : bad) {
            new Trial().leaves(call + v, refused);
            Trial.rich().leaves(call + v, refused);
        }
        for (int v : good) {
            new Trial().due(call + v, 1);
        }
        Trial x = new Trial();
        x.due(call + clears, 0);
        for (int i = 0; i < most; i++) {
            x.due(call + good[i % good.length], i + 1);
        }
        for (int v : good) {
            x.leaves(call + v, refused);
        }
        for (int v : bad) {
            x.leaves(call + v, refused);
        }
        x.due(call + clears, 0).due(call + good[0], 1);
        Trial.full().leaves(call + good[0], refused);
    }

    private static void breathsTold() {
        sentence("A number for BREATH (NONE - 99: none is then): how many; NONE - 99 if one can't be, or there are sixteen.",
            "BREATH: a told row of up to 16 numbers (-50 .. 50):");
        row("breath ", -100, 16, -100, new int[] {0, 50, -50, 49, -49, -1}, new int[] {51, -51, -99, -101, LEAST, MOST});
        Trial x = new Trial();
        x.due("breath 50", 1).due("breath -50", 2).due("held 0", 50).due("least 0 1", 1).due("breath -100", 0);
        x.due("held 0", 0).due("held 1", 0).due("least 0 2", -1).due("breath -50", 1).due("held 0", -50);
    }

    private static Trial breaths(int... row) {
        Trial x = new Trial();
        for (int i = 0; i < row.length; i++) {
            x.due("breath " + row[i], i + 1);
        }
        return x;
    }

    private static void heldOfSome() {
        sentence("the greatest sum of some side by side (one at least); that, or the greatest that comes of some side by side by leaving out one of"
            + " them (one at least stays), if that is more (none told: 0, 0).");
        new Trial().due("held 0", 0).due("held 1", 0);
        // One at least, though it be below 0, and one at least stays.
        breaths(-3).due("held 0", -3).due("held 1", -3);
        breaths(-3, -2).due("held 0", -2).due("held 1", -2);
        breaths(-2, -3).due("held 0", -2).due("held 1", -2);
        breaths(0).due("held 0", 0).due("held 1", 0);
        // Leaving out is no more: then it is the whole sum.
        breaths(1, 2, 3).due("held 0", 6).due("held 1", 6);
        // The first, the last, one within.
        breaths(-5, 4, 4).due("held 0", 8).due("held 1", 8);
        breaths(4, 4, -5).due("held 0", 8).due("held 1", 8);
        breaths(4, -5, 4).due("held 0", 4).due("held 1", 8);
        // One only can be left out.
        breaths(4, -1, -1, 4).due("held 0", 6).due("held 1", 7);
        breaths(4, -5, -5, 4).due("held 0", 4).due("held 1", 4);
        // All sixteen, the first and the last among them.
        int[] row = new int[16];
        java.util.Arrays.fill(row, 50);
        breaths(row).due("held 0", 800).due("held 1", 800);
        row[8] = -50;
        breaths(row).due("held 0", 700).due("held 1", 750);
        java.util.Arrays.fill(row, -50);
        breaths(row).due("held 0", -50).due("held 1", -50);
    }

    private static void heldRefused() {
        sentence("BREATH what 0 the greatest, 1 with one left out. NONE - 999 for another what.");
        for (int what : new int[] {-1, 2, LEAST, MOST}) {
            new Trial().leaves("held " + what, -1000);
            Trial.rich().leaves("held " + what, -1000);
        }
    }

    private static void leastAround() {
        sentence("LEAST of the row: the nearest place to the left of place i that has less than it (NONE); to the right; how many rows side by"
            + " side that have place i in them have nothing less than it anywhere, and nothing alike to its left (alike to its right can be).");
        Trial x = breaths(2, 5, 2, 5, 2);
        x.due("least 0 0", -1).due("least 0 1", -1).due("least 0 2", 5);
        x.due("least 1 0", 0).due("least 1 1", 2).due("least 1 2", 1);
        x.due("least 2 0", -1).due("least 2 1", -1).due("least 2 2", 2 * 3);
        x.due("least 3 0", 2).due("least 3 1", 4).due("least 3 2", 1);
        x.due("least 4 0", -1).due("least 4 1", -1).due("least 4 2", 2);
        Trial y = breaths(1, 3, 2, 0);
        y.due("least 0 0", -1).due("least 0 1", 3).due("least 0 2", 3);
        y.due("least 2 0", 0).due("least 2 1", 3).due("least 2 2", 2);
        y.due("least 3 0", -1).due("least 3 1", -1).due("least 3 2", 4);
        breaths(7).due("least 0 0", -1).due("least 0 1", -1).due("least 0 2", 1);
        breaths(7, 7).due("least 0 2", 2).due("least 1 2", 1);
        breaths(16, 15, 14, 13, 12, 11, 10, 9, 8, 7, 6, 5, 4, 3, 2, 1).due("least 15 2", 16).due("least 0 2", 1).due("least 0 1", 1);
        breaths(1, 2, 3, 4, 5, 6, 7, 8, 9, 10, 11, 12, 13, 14, 15, 16).due("least 0 2", 16).due("least 15 2", 1).due("least 15 0", 14);
    }

    private static void leastRefused() {
        sentence("NONE, too, if there is none such, or another what.",
            "LEAST of place i what 0 to the left, 1 to the right, 2 how many rows.");
        for (int what = 0; what < 3; what++) {
            new Trial().leaves("least 0 " + what, -1);
            for (int i : new int[] {-1, 2, 16, LEAST, MOST}) {
                breaths(2, 1).leaves("least " + i + " " + what, -1);
            }
            Trial.full().due("least 16 " + what, -1).due("least -1 " + what, -1);
        }
        for (int what : new int[] {-1, 3, LEAST, MOST}) {
            breaths(2, 1).leaves("least 0 " + what, -1);
        }
        breaths(2, 1).due("least 1 2", 2).due("least 0 1", 1);
        // A place of a row that was there is there no more.
        breaths(2, 1).due("breath -100", 0).due("least 0 2", -1).due("breath 3", 1).due("least 1 2", -1).due("least 0 1", -1);
    }

    private static void headsTurned() {
        sentence("(0, 1, 8 stay, 6 is 9, 9 is 6, others can't; digits from behind; 0 ahead falls away): that (NONE);");
        Trial x = new Trial();
        int[] one = {0, 1, -1, -1, -1, -1, 9, -1, 8, 6};
        for (int d = 0; d < 10; d++) {
            x.due("heads " + d + " 0", one[d]);
            x.due("heads " + (10 + d) + " 0", one[d] < 0 ? -1 : 10 * one[d] + 1);
            x.due("heads " + (10000 + 10 * d) + " 0", one[d] < 0 ? -1 : 1000 * one[d] + 1);
        }
        x.due("heads 10 0", 1).due("heads 60000 0", 9).due("heads 100 0", 1).due("heads 16 0", 91).due("heads 99999 0", 66666);
        x.due("heads 10801 0", 10801).due("heads 80000 0", 8).due("heads 20 0", -1).due("heads 12 0", -1);
    }

    private static void headsAbove() {
        sentence("the least above n (it may be above 99999) that is itself upside down; how many of 0 .. n (0, too) are.");
        Trial x = new Trial();
        int[][] told = {{0, 1, 1}, {1, 8, 2}, {2, 8, 2}, {7, 8, 2}, {8, 11, 3}, {10, 11, 3}, {11, 69, 4}, {68, 69, 4}, {69, 88, 5}, {88, 96, 6},
            {96, 101, 7}, {100, 101, 7}, {986, 1001, 19}, {9966, 10001, 39}, {99865, 99866, 98}, {99866, 100001, 99}, {99999, 100001, 99}};
        for (int[] one : told) {
            x.due("heads " + one[0] + " 1", one[1]).due("heads " + one[0] + " 2", one[2]);
        }
    }

    private static void headsRefused() {
        sentence("HEADS what 0 that, 1 the least above, 2 how many. NONE, too, if n can't be, or another what.",
            "HEADS: n (0 .. 99999) turned upside down");
        Trial x = new Trial();
        for (int what = 0; what < 3; what++) {
            for (int n : new int[] {-1, -8, 100000, 100001, LEAST, MOST}) {
                x.leaves("heads " + n + " " + what, -1);
            }
        }
        for (int what : new int[] {-1, 3, LEAST, MOST}) {
            x.leaves("heads 8 " + what, -1);
            x.leaves("heads 99999 " + what, -1);
        }
        x.due("heads 0 0", 0).due("heads 99999 0", 66666);
    }

    private static void saidRefused() {
        sentence("SAID of 1 .. n: how often digit d (0 .. 9). NONE if one can't be.",
            "SAID: 1, 2, .. n (1 .. 9999) said digit by digit: how often digit d;");
        Trial x = new Trial();
        for (int n : new int[] {0, -1, 10000, LEAST, MOST}) {
            x.leaves("said " + n + " 1", -1);
        }
        for (int d : new int[] {-1, 10, LEAST, MOST}) {
            x.leaves("said 9999 " + d, -1);
        }
        x.due("said 1 0", 0).due("said 1 1", 1).due("said 1 9", 0).due("said 9 0", 0).due("said 9 9", 1);
        x.due("said 10 0", 1).due("said 10 1", 2).due("said 99 0", 9).due("said 100 0", 11).due("said 99 9", 20);
        x.due("said 9999 0", 2889).due("said 9999 1", 4000).due("said 9999 9", 4000).due("said 9998 9", 3996);
        x.due("said 1000 0", 192).due("said 1000 1", 301).due("said 999 1", 300);
    }

    private static void digitsRefused() {
        sentence("SAID of 1 .. n: the k-th digit. NONE if there is none such.",
            "the k-th digit of it (k from 0).");
        Trial x = new Trial();
        for (int n : new int[] {0, -1, 10000, LEAST, MOST}) {
            x.leaves("digit " + n + " 0", -1);
        }
        for (int k : new int[] {-1, LEAST, 38889, MOST}) {
            x.leaves("digit 9999 " + k, -1);
        }
        x.due("digit 1 0", 1).due("digit 1 1", -1).due("digit 9 8", 9).due("digit 9 9", -1);
        x.due("digit 10 9", 1).due("digit 10 10", 0).due("digit 10 11", -1);
        // 21 has its digits at 31 and 32, 145 at 324 to 326, 1234 at 3825 to 3828.
        x.due("digit 99 31", 2).due("digit 99 32", 1).due("digit 9999 31", 2).due("digit 145 324", 1).due("digit 145 325", 4).due("digit 145 326", 5);
        x.due("digit 1234 3825", 1).due("digit 9999 3826", 2).due("digit 1234 3827", 3).due("digit 1234 3828", 4).due("digit 1234 3829", -1);
        x.due("digit 99 188", 9).due("digit 99 189", -1).due("digit 100 189", 1).due("digit 100 191", 0).due("digit 100 192", -1);
        x.due("digit 999 2888", 9).due("digit 999 2889", -1).due("digit 1000 2889", 1).due("digit 1000 2892", 0).due("digit 1000 2893", -1);
        x.due("digit 9999 38888", 9).due("digit 9999 38885", 9).due("digit 9999 38884", 8).due("digit 9998 38884", 8).due("digit 9998 38885", -1);
    }

    private static void callsTold() {
        sentence("CALLS: up to 10 told calls (from a to b, 0 .. 99, a below b, worth 1 .. 99):");
        String[] bad = {"-2 5 1", LEAST + " 5 1", "99 99 1", "5 5 1", "6 5 1", "0 0 1", "0 -1 1", "0 100 1", "99 100 1", "0 " + MOST + " 1", "100 101 1",
            "0 1 0", "0 1 -1", "0 1 100", "0 1 " + LEAST, "0 1 " + MOST, MOST + " " + LEAST + " 1"};
        for (String call : bad) {
            new Trial().leaves("call " + call, -1);
            Trial.rich().leaves("call " + call, -1);
        }
        for (String call : new String[] {"0 1 1", "0 99 99", "98 99 1", "5 6 98", "1 98 2"}) {
            new Trial().due("call " + call, 1);
        }
        Trial x = new Trial();
        for (int i = 0; i < 10; i++) {
            x.due("call " + i + " " + (i + 1) + " 99", i + 1);
        }
        x.leaves("call 10 11 5", -1);
        x.due("calls 0", 990).due("calls 1", 10).due("calls 2", 10).due("calls 3", 1);
        sentence("A call (a NONE: none is then): how many; NONE if one can't be, or there are ten.");
        x.due("call -1 0 0", 0).due("calls 0", 0).due("call 0 99 99", 1).due("calls 0", 99).due("calls 2", 99).due("call -1 5 6", 0);
        Trial.full().leaves("call 0 1 1", -1);
        Trial.full().due("call -1 -1 -1", 0).due("calls 0", 0).due("calls 3", 0);
    }

    private static Trial calls(int... row) {
        Trial x = new Trial();
        for (int i = 0; i < row.length; i += 3) {
            x.due("call " + row[i] + " " + row[i + 1] + " " + row[i + 2], i / 3 + 1);
        }
        return x;
    }

    private static void callsBeside() {
        sentence("of those that do not overlap (one can begin where another one ends) the greatest worth; of how few calls that comes (none told: 0);");
        calls(0, 5, 3, 5, 9, 4).due("calls 0", 7).due("calls 1", 2).due("calls 2", 9).due("calls 3", 1);
        calls(0, 6, 3, 5, 9, 4).due("calls 0", 4).due("calls 1", 1).due("calls 2", 9).due("calls 3", 2);
        calls(0, 4, 3, 5, 9, 4).due("calls 0", 7).due("calls 1", 2).due("calls 2", 8).due("calls 3", 1);
        // The same worth by one or by two: of one.
        calls(0, 5, 3, 5, 9, 4, 0, 9, 7).due("calls 0", 7).due("calls 1", 1);
        calls(0, 5, 3, 5, 9, 4, 0, 9, 6).due("calls 0", 7).due("calls 1", 2);
        calls(0, 99, 99, 0, 1, 99, 98, 99, 1).due("calls 0", 100).due("calls 1", 2).due("calls 2", 99).due("calls 3", 2);
        sentence("how many calls at most are at once (one that begins where another one ends is not with it).");
        calls(0, 5, 1, 4, 6, 1, 5, 9, 1).due("calls 3", 2);
        calls(0, 5, 1, 4, 6, 1, 4, 9, 1).due("calls 3", 3);
        calls(3, 4, 1, 3, 4, 1, 3, 4, 1).due("calls 3", 3).due("calls 2", 1).due("calls 0", 1).due("calls 1", 1);
        calls(98, 99, 5, 98, 99, 6).due("calls 3", 2).due("calls 2", 1).due("calls 0", 6);
    }

    private static void callsOfNone() {
        sentence("CALLS what 0 the greatest worth, 1 how many at the fewest, 2 how many minutes, 3 at once. NONE for another what.",
            "how many minutes are in some call;");
        for (int what = 0; what < 4; what++) {
            new Trial().due("calls " + what, 0);
        }
        for (int what : new int[] {-1, 4, LEAST, MOST}) {
            new Trial().leaves("calls " + what, -1);
            Trial.rich().leaves("calls " + what, -1);
        }
        Trial x = calls(0, 1, 1).due("calls 0", 1).due("calls 1", 1).due("calls 2", 1).due("calls 3", 1);
        x.due("call -1 0 0", 0).due("calls 0", 0).due("calls 1", 0).due("calls 2", 0).due("calls 3", 0);
    }

    private static void hicsRefused() {
        sentence("HICS of k in n what 0 .. n - 1 whether beat what has one, 100 the longest way. NONE if one can't be, or another what.",
            "HICS: k (0 .. 30) in n (1 .. 30; k at most n) beats: beat i has one if i times k modulo n is below k: whether (1, 0);");
        Trial x = new Trial();
        for (String kn : new String[] {"-1 5", "6 5", "1 0", "0 0", "1 -1", "3 31", "31 31", "30 31", "31 30", LEAST + " 5", MOST + " 5", "5 " + LEAST,
            "5 " + MOST}) {
            x.leaves("hics " + kn + " 0", -1);
            x.leaves("hics " + kn + " 100", -1);
        }
        for (int what : new int[] {-1, 5, 30, 99, 101, LEAST, MOST}) {
            x.leaves("hics 3 5 " + what, -1);
        }
        x.due("hics 0 1 0", 0).due("hics 1 1 0", 1).due("hics 1 1 1", -1).due("hics 1 1 100", 1);
        x.due("hics 30 30 29", 1).due("hics 30 30 30", -1).due("hics 30 30 100", 1).due("hics 1 30 0", 1).due("hics 1 30 29", 0).due("hics 29 30 1", 0);
        x.due("hics 3 5 4", 1).due("hics 3 5 0", 1).due("hics 3 5 1", 0).due("hics 3 5 2", 1).due("hics 3 5 3", 0);
    }

    private static void hicsOfNone() {
        sentence("the longest way from one to the next one round (k 0: 0; one alone: n).");
        Trial x = new Trial();
        for (int n = 1; n <= 30; n++) {
            x.due("hics 0 " + n + " 100", 0).due("hics 1 " + n + " 100", n).due("hics " + n + " " + n + " 100", 1);
            x.due("hics 0 " + n + " 0", 0);
            if (n > 2) {
                x.due("hics " + (n - 1) + " " + n + " 100", 2).due("hics 2 " + n + " 100", (n + 1) / 2);
            }
        }
        // Beat i has one, if i times k modulo n is below k: not at k.
        x.due("hics 2 8 1", 0).due("hics 2 8 4", 1).due("hics 4 8 1", 0).due("hics 5 8 1", 0).due("hics 3 8 1", 0).due("hics 3 8 3", 1);
    }

    private static void waysTold() {
        sentence("A way for GOSSIP (a NONE: none is then): how many; NONE if one can't be, or there are fourteen.",
            "GOSSIP: up to 14 told ways from a to b (0 .. 5, unlike) for c (1 .. 20):");
        String[] bad = {"-2 1 1", "6 1 1", "1 -1 1", "1 6 1", "0 0 1", "5 5 1", "0 1 0", "0 1 -1", "0 1 21", LEAST + " 1 1", MOST + " 1 1", "1 " + LEAST + " 1",
            "1 " + MOST + " 1", "0 1 " + LEAST, "0 1 " + MOST};
        for (String way : bad) {
            new Trial().leaves("way " + way, -1);
            Trial.rich().leaves("way " + way, -1);
        }
        for (String way : new String[] {"0 5 1", "5 0 20", "4 5 19", "0 1 2"}) {
            new Trial().due("way " + way, 1);
        }
        Trial x = new Trial();
        for (int i = 0; i < 14; i++) {
            x.due("way 0 5 20", i + 1);
        }
        x.due("gossip 0 5 0", 280).due("gossip 0 5 1", 14).due("gossip 5 0 0", 0);
        x.leaves("way 0 5 20", -1);
        x.due("way -1 0 0", 0).due("gossip 0 5 0", 0).due("way 5 0 1", 1).due("gossip 5 0 0", 1);
        Trial.full().leaves("way 0 1 1", -1);
        Trial.full().due("way -1 9 99", 0).due("gossip 0 1 1", 0);
    }

    private static void gossipRefused() {
        sentence("GOSSIP from a to b (unlike) what 0 the most, 1 how few ways. NONE if one can't be, or another what.");
        Trial x = Trial.rich();
        for (int what = 0; what < 2; what++) {
            for (String ab : new String[] {"0 0", "5 5", "-1 0", "0 -1", "6 0", "0 6", LEAST + " 0", MOST + " 0", "0 " + LEAST, "0 " + MOST, "32 0", "0 33"}) {
                x.leaves("gossip " + ab + " " + what, -1);
            }
            x.due("gossip 0 5 " + what, 0).due("gossip 5 0 " + what, 0);
        }
        for (int what : new int[] {-1, 2, LEAST, MOST}) {
            x.leaves("gossip 0 1 " + what, -1);
        }
        x.due("gossip 0 1 0", 3).due("gossip 0 2 0", 2).due("gossip 0 1 1", 1).due("gossip 0 2 1", 1);
    }

    private static void gossipTwice() {
        sentence("how few ways (whatever their c) must be taken out, so that none leads from a to b any more (told twice it is two).",
            "the most that can go from a to b, at most c by each, as much coming to each other one as going on;");
        Trial x = new Trial();
        x.due("way 0 1 20", 1).due("gossip 0 1 0", 20).due("gossip 0 1 1", 1);
        x.due("way 0 1 1", 2).due("gossip 0 1 0", 21).due("gossip 0 1 1", 2);
        // Through one other: the narrow way holds the most, the single one how few.
        x.due("way 1 5 7", 3).due("gossip 0 5 0", 7).due("gossip 0 5 1", 1);
        // Back and forth adds nothing.
        x.due("way 1 0 20", 4).due("way 5 1 20", 5).due("gossip 0 5 0", 7).due("gossip 0 5 1", 1);
    }

    private static void termsTold() {
        sentence("A number of row 0, 1 for TERMS (v NONE - 9: it is empty then): how many; NONE if one can't be, or there are six.",
            "TERMS: two told rows of up to 6 numbers (-9 .. 9; the first times 1, the next times x, ..):");
        row("term 0 ", -10, 6, -1, new int[] {0, 9, -9, 8, -8, 1}, new int[] {10, -11, -12, LEAST, MOST});
        row("term 1 ", -10, 6, -1, new int[] {0, 9, -9, 8, -8, 1}, new int[] {10, -11, -12, LEAST, MOST});
        for (int which : new int[] {-1, 2, LEAST, MOST}) {
            for (int v : new int[] {0, 5, -10, 10}) {
                Trial.rich().leaves("term " + which + " " + v, -1);
            }
        }
        // Each row for itself.
        Trial x = new Trial();
        x.due("term 0 3", 1).due("term 1 4", 1).due("term 1 5", 2).due("term 0 -10", 0).due("terms 0 1", 0).due("terms 1 1", 9);
        x.due("term 1 -10", 0).due("terms 1 1", 0);
    }

    private static void termsOfNone() {
        sentence("TERMS of row 0, 1 at x (an empty one: 0).");
        Trial x = new Trial();
        for (int which = 0; which < 2; which++) {
            x.due("terms " + which + " -9", 0).due("terms " + which + " 0", 0).due("terms " + which + " 9", 0);
            x.due("product " + which, 19);
        }
        for (int i = 10; i <= 20; i++) {
            x.due("product " + i, 0);
        }
        x.due("term 0 5", 1).due("product 10", 0).due("product 0", 0).due("product 1", 19);
    }

    private static Trial terms(int[] first, int[] second) {
        Trial x = new Trial();
        for (int i = 0; i < first.length; i++) {
            x.due("term 0 " + first[i], i + 1);
        }
        for (int i = 0; i < second.length; i++) {
            x.due("term 1 " + second[i], i + 1);
        }
        return x;
    }

    private static void termsRefused() {
        sentence("NONE - 9999999 if one can't be.",
            "of row 0, 1 what it comes to at x (-9 .. 9);");
        Trial x = terms(new int[] {9, 9, 9, 9, 9, 9}, new int[] {-9, -9, -9, -9, -9, -9});
        for (int which = 0; which < 2; which++) {
            for (int at : new int[] {-10, 10, LEAST, MOST}) {
                x.leaves("terms " + which + " " + at, -10000000);
            }
        }
        for (int which : new int[] {-1, 2, LEAST, MOST}) {
            x.leaves("terms " + which + " 0", -10000000);
        }
        x.due("terms 0 9", 597870).due("terms 1 9", -597870).due("terms 0 -9", -478296).due("terms 1 -9", 478296);
        x.due("terms 0 8", 337041).due("terms 0 -8", -262143).due("terms 0 0", 9).due("terms 0 1", 54).due("terms 1 -1", 0);
    }

    private static void productsRefused() {
        sentence("TERMS: of how many x row 0, 1 is 0; which 10 + i: what stands at x to the i of both. NONE - 9999999 if there is none such.",
            "of how many x -9 .. 9 it is 0; what stands at x to the i (i 0 .. 10) of both multiplied.");
        Trial x = terms(new int[] {9, 9, 9, 9, 9, 9}, new int[] {-9, -9, -9, -9, -9, -9});
        for (int which : new int[] {-1, 2, 9, 21, LEAST, MOST}) {
            x.leaves("product " + which, -10000000);
        }
        for (int i = 0; i <= 10; i++) {
            x.due("product " + (10 + i), -81 * (i <= 5 ? i + 1 : 11 - i));
        }
        x.due("product 0", 1).due("product 1", 1);
        Trial y = terms(new int[] {1, 2, 3}, new int[] {4, 5});
        int[] both = {4, 13, 22, 15, 0, 0};
        for (int i = 0; i < both.length; i++) {
            y.due("product " + (10 + i), both[i]);
        }
        // Of -9 and of 9, the first and the last x.
        terms(new int[] {-9, 1}, new int[] {9, 1}).due("product 0", 1).due("product 1", 1).due("product 12", 1).due("product 10", -81);
        terms(new int[] {-8, 1}, new int[] {0, 1}).due("product 0", 1).due("product 1", 1);
        terms(new int[] {0}, new int[] {0, 0, 1}).due("product 0", 19).due("product 1", 1).due("product 12", 0);
    }

    private static void tonguesRefused() {
        sentence("TONGUES what 0 the sum, 1 whether, 2 the least base (b not asked). NONE, too, if one can't be, or another what.",
            "TONGUES: n (1 .. 9999) in base b (2 .. 16): the sum of its digits;");
        Trial x = new Trial();
        for (int what = 0; what < 3; what++) {
            for (int n : new int[] {0, -1, 10000, LEAST, MOST}) {
                x.leaves("tongues " + n + " 2 " + what, -1);
            }
        }
        for (int b : new int[] {1, 0, -1, 17, LEAST, MOST}) {
            x.leaves("tongues 5 " + b + " 0", -1);
            x.leaves("tongues 5 " + b + " 1", -1);
            x.due("tongues 5 " + b + " 2", 2);
        }
        for (int what : new int[] {-1, 3, LEAST, MOST}) {
            x.leaves("tongues 5 2 " + what, -1);
            x.leaves("tongues 5 99 " + what, -1);
        }
        x.due("tongues 1 2 0", 1).due("tongues 1 16 0", 1).due("tongues 9999 2 0", 8).due("tongues 9999 16 0", 2 + 7 + 0 + 15).due("tongues 9999 10 0", 36);
        x.due("tongues 1 2 1", 1).due("tongues 1 16 1", 1).due("tongues 1 0 2", 2).due("tongues 9999 10 1", 1).due("tongues 9999 16 1", 0);
        x.due("tongues 15 16 1", 1).due("tongues 16 16 1", 0).due("tongues 17 16 1", 1).due("tongues 2 2 1", 0).due("tongues 3 2 1", 1);
    }

    private static void tonguesAlike() {
        sentence("whether it reads alike both ways; the least base in which it does (2 .. 16; NONE).");
        Trial x = new Trial();
        // 2 is 10 of two and 2 of three; 34 reads alike of sixteen first (22); 19 would of eighteen.
        x.due("tongues 2 0 2", 3).due("tongues 3 0 2", 2).due("tongues 4 0 2", 3).due("tongues 6 0 2", 5).due("tongues 11 0 2", 10);
        x.due("tongues 14 0 2", 6).due("tongues 19 0 2", -1).due("tongues 19 16 1", 0).due("tongues 10 0 2", 3);
        x.due("tongues 39 12 1", 1).due("tongues 39 0 2", 12).due("tongues 47 0 2", -1).due("tongues 79 0 2", -1).due("tongues 34 0 2", 4);
        x.due("tongues 176 0 2", 15).due("tongues 102 0 2", 16).due("tongues 9826 0 2", 16).due("tongues 102 16 1", 1);
        // Of seventeen they would.
        x.due("tongues 198 0 2", -1).due("tongues 9810 0 2", -1);
        x.due("tongues 10 3 1", 1).due("tongues 10 2 1", 0).due("tongues 12 2 1", 0).due("tongues 12 0 2", 5);
    }

    private static void squaresRefused() {
        sentence("SQUARES what 0 how few, 1 in how many ways. NONE if n can't be, or another what.",
            "SQUARES: n (1 .. 9999): of how few squares (1, 4, 9, ..) it is the sum;");
        Trial x = new Trial();
        for (int n : new int[] {0, -1, 10000, LEAST, MOST}) {
            x.leaves("squares " + n + " 0", -1);
            x.leaves("squares " + n + " 1", -1);
        }
        for (int what : new int[] {-1, 2, LEAST, MOST}) {
            x.leaves("squares 5 " + what, -1);
        }
        x.due("squares 1 0", 1).due("squares 2 0", 2).due("squares 3 0", 3).due("squares 7 0", 4).due("squares 4 0", 1).due("squares 12 0", 3);
        x.due("squares 9999 0", 4).due("squares 9801 0", 1).due("squares 9802 0", 2).due("squares 28 0", 4).due("squares 112 0", 4).due("squares 7168 0", 4);
        x.due("squares 9998 0", 3).due("squares 9997 0", 2);
    }

    private static void squaresOfTwo() {
        sentence("in how many ways of two (0, too, the order not asked).");
        Trial x = new Trial();
        x.due("squares 1 1", 1).due("squares 2 1", 1).due("squares 3 1", 0).due("squares 4 1", 1).due("squares 5 1", 1).due("squares 25 1", 2);
        x.due("squares 50 1", 2).due("squares 65 1", 2).due("squares 325 1", 3).due("squares 9801 1", 1).due("squares 9999 1", 0).due("squares 5525 1", 6);
        x.due("squares 9802 1", 3).due("squares 8 1", 1).due("squares 98 1", 1).due("squares 9997 1", 2);
    }

    private static void kinTold() {
        sentence("A number for TREE (NONE: it is empty then): how many; NONE if one can't be, or there are six.",
            "TREE: a told row of up to 6 numbers 0 .. 7;");
        row("kin ", -1, 6, -1, new int[] {0, 7, 6, 1}, new int[] {8, -2, LEAST, MOST});
    }

    private static Trial kin(int... row) {
        Trial x = new Trial();
        for (int i = 0; i < row.length; i++) {
            x.due("kin " + row[i], i + 1);
        }
        return x;
    }

    private static void treeRefused() {
        sentence("TREE what 0 how many are joined to v (u not asked), 1 how far from v to u. NONE, too, if one can't be, or another what.",
            "how many are joined to v; how many joinings from v to u.");
        Trial x = kin(1, 2);
        // 0 - 1 - 2 - 3.
        x.due("tree 0 0 0", 1).due("tree 1 0 0", 2).due("tree 2 0 0", 2).due("tree 3 0 0", 1);
        x.due("tree 0 3 1", 3).due("tree 3 0 1", 3).due("tree 3 3 1", 0).due("tree 0 0 1", 0).due("tree 1 3 1", 2);
        for (int v : new int[] {-1, 4, 7, LEAST, MOST}) {
            x.leaves("tree " + v + " 0 0", -1);
            x.leaves("tree " + v + " 0 1", -1);
            x.leaves("tree 0 " + v + " 1", -1);
            x.due("tree 0 " + v + " 0", 1);
        }
        for (int what : new int[] {-1, 2, LEAST, MOST}) {
            x.leaves("tree 0 1 " + what, -1);
        }
        Trial all = kin(0, 0, 0, 0, 0, 0);
        all.due("tree 0 0 0", 7).due("tree 7 0 0", 1).due("tree 7 6 1", 2).due("tree 7 0 1", 1).due("tree 8 0 0", -1).due("tree 0 8 1", -1);
        Trial line = kin(1, 2, 3, 4, 5, 6);
        line.due("tree 0 7 1", 7).due("tree 7 0 1", 7).due("tree 7 0 0", 1).due("tree 6 0 0", 2);
        kin(7, 7, 7, 7, 7, 7).due("tree 7 0 0", 7).due("tree 0 6 1", 2).due("tree 7 6 1", 1);
    }

    private static void treeOfNone() {
        sentence("there are as many and 2 more, from 0 on (NONE, if one told is not among them):");
        Trial x = new Trial();
        x.due("tree 0 0 0", 1).due("tree 1 0 0", 1).due("tree 0 1 1", 1).due("tree 1 0 1", 1).due("tree 1 1 1", 0).due("tree 2 0 0", -1).due("tree 0 2 1", -1);
        for (int n = 1; n <= 6; n++) {
            int[] row = new int[n];
            row[n - 1] = n + 1;
            kin(row).due("tree 0 0 0", n).due("tree " + (n + 1) + " 0 0", 2).due("tree 0 " + (n + 1) + " 1", 1);
            if (n < 6) {
                row[n - 1] = n + 2;
                Trial y = kin(row);
                y.due("tree 0 0 0", -1).due("tree 0 1 1", -1).due("tree " + (n + 1) + " 0 0", -1);
                // One more told, and it is among them.
                y.due("kin 0", n + 1).due("tree 0 0 0", n + 1);
            }
        }
        kin(3).due("tree 0 0 0", -1).due("kin -1", 0).due("tree 0 1 1", 1);
        kin(2).due("tree 2 0 0", 2).due("tree 0 1 1", 2);
    }

    private static void leastLeftIsJoined() {
        sentence("the least one left that is not in the row is joined to the first one of the row; it is left no more, and that first one is taken"
            + " off the row; again, till the row is empty; then the two left are joined:");
        // 0 to 1, 2 to 1, and 1 and 3 are left.
        kin(1, 1).due("tree 1 0 0", 3).due("tree 3 0 0", 1).due("tree 0 2 1", 2).due("tree 2 3 1", 2);
        // 1 to 0, then 0, who is in the row no more, to 2; 2 and 3 are left.
        kin(0, 2).due("tree 0 0 0", 2).due("tree 2 0 0", 2).due("tree 1 3 1", 3);
        // 0 to 3, 1 to 3, 3 to 2; 2 and 4 are left.
        kin(3, 3, 2).due("tree 3 0 0", 3).due("tree 2 0 0", 2).due("tree 0 4 1", 3).due("tree 0 1 1", 2);
        // 1 to 4, 2 to 0, 0 to 4, 3 to 4; 4 and 5 are left.
        kin(4, 0, 4, 4).due("tree 4 0 0", 4).due("tree 0 0 0", 2).due("tree 2 5 1", 3).due("tree 2 1 1", 3).due("tree 3 5 1", 2);
    }

    private static void stepsTold() {
        sentence("A bad step for STAIR (NONE: none is then): how many; NONE if one can't be, or there are eight.");
        row("step ", -1, 8, -1, new int[] {1, 40, 2, 39}, new int[] {0, 41, -2, LEAST, MOST});
        Trial x = new Trial();
        x.due("step 40", 1).due("stair 40 1 0", 0).due("stair 39 1 0", 1).due("step -1", 0).due("stair 40 1 0", 1);
        x.due("step 1", 1).due("stair 2 1 0", 0).due("stair 2 2 0", 1).due("stair 0 1 0", 1);
    }

    private static void stairRefused() {
        sentence("STAIR what 0 in how many ways (modulo 1000000007), 1 the fewest. NONE, too, if one can't be, or another what.",
            "STAIR of n (0 .. 40) steps from 0, by 1 .. k (1 .. 6) at a going,");
        Trial x = Trial.rich();
        for (int what = 0; what < 2; what++) {
            for (String nk : new String[] {"-1 1", "41 1", LEAST + " 1", MOST + " 1", "5 0", "5 -1", "5 7", "5 " + LEAST, "5 " + MOST}) {
                x.leaves("stair " + nk + " " + what, -1);
            }
        }
        for (int what : new int[] {-1, 2, LEAST, MOST}) {
            x.leaves("stair 5 2 " + what, -1);
        }
        Trial y = new Trial();
        y.due("stair 40 1 0", 1).due("stair 40 1 1", 40).due("stair 40 6 1", 7).due("stair 6 6 0", 32).due("stair 6 6 1", 1).due("stair 7 6 1", 2);
        y.due("stair 7 6 0", 63).due("stair 1 6 0", 1).due("stair 2 6 0", 2).due("stair 36 6 1", 6).due("stair 37 6 1", 7);
    }

    private static void stairOfNone() {
        sentence("told bad ones, up to 8 (1 .. 40), never stood on (n itself, too): in how many ways one comes to n just; by how few goings (NONE).");
        Trial x = new Trial();
        for (int k = 1; k <= 6; k++) {
            x.due("stair 0 " + k + " 0", 1).due("stair 0 " + k + " 1", 0);
        }
        x.due("step 5", 1).due("stair 5 2 0", 0).due("stair 5 2 1", -1).due("stair 4 2 0", 5).due("stair 6 2 0", 5).due("stair 6 2 1", 3);
        x.due("step 6", 2).due("stair 7 2 0", 0).due("stair 7 2 1", -1).due("stair 7 3 0", 7).due("stair 7 3 1", 3);
        // Told twice is told.
        x.due("step 5", 3).due("stair 4 2 0", 5).due("stair 7 3 0", 7);
        // By how few is asked first of an object, behind bad ones that are none then, too.
        new Trial().due("step 5", 1).due("stair 5 2 1", -1).due("step -1", 0).due("stair 5 2 1", 3).due("step 4", 1).due("stair 5 2 1", 3).due("stair 5 1 1", -1);
        new Trial().due("stair 5 2 0", 8).due("step 5", 1).due("stair 5 2 0", 0).due("step -1", 0).due("stair 5 2 0", 8);
        // Six in a row can't be passed by six at a going, five can.
        Trial y = new Trial();
        for (int i = 1; i <= 5; i++) {
            y.due("step " + i, i);
        }
        y.due("stair 6 6 0", 1).due("stair 6 6 1", 1).due("step 6", 6).due("stair 7 6 0", 0).due("stair 40 6 1", -1);
    }

    private static void stairModulo() {
        sentence("(modulo 1000000007)");
        Trial x = new Trial();
        long[] ways = new long[41];
        for (int k = 1; k <= 6; k++) {
            for (int i = 0; i <= 40; i++) {
                ways[i] = i == 0 ? 1 : 0;
                for (int j = Math.max(0, i - k); j < i; j++) {
                    ways[i] += ways[j];
                }
            }
            for (int n = 28; n <= 40; n++) {
                x.due("stair " + n + " " + k + " 0", ways[n] % 1000000007L);
            }
        }
        x.due("stair 40 2 0", 165580141);
    }

    private static void heapsTold() {
        sentence("A heap for GAME (NONE: none is then): how many; NONE if one can't be, or there are four.",
            "GAME: up to 4 told heaps (0 .. 15):");
        row("heap ", -1, 4, -1, new int[] {0, 15, 1, 14}, new int[] {16, -2, LEAST, MOST});
        new Trial().due("heap 15", 1).due("game", 14).due("heap -1", 0).due("game", -1).due("heap 0", 1).due("game", -1).due("heap 15", 2).due("game", 114);
    }

    private static Trial heaps(int... row) {
        Trial x = new Trial();
        for (int i = 0; i < row.length; i++) {
            x.due("heap " + row[i], i + 1);
        }
        return x;
    }

    private static void gamesLost() {
        sentence("two by turns take some of one; who takes the last one of all loses: how one who wins begins (100 times which heap, and how many; the"
            + " least; NONE: loses, or there are none).");
        new Trial().due("game", -1);
        heaps(0).due("game", -1);
        heaps(0, 0, 0, 0).due("game", -1);
        heaps(1).due("game", -1);
        heaps(2).due("game", 1);
        heaps(1, 1).due("game", 1);
        heaps(1, 1, 1).due("game", -1);
        heaps(1, 1, 1, 1).due("game", 1);
        heaps(0, 1, 0, 1).due("game", 101);
        heaps(2, 2).due("game", -1);
        heaps(3, 3).due("game", -1);
        heaps(15, 15).due("game", -1);
        heaps(1, 2, 3).due("game", -1);
        heaps(15, 15, 15, 15).due("game", -1);
        heaps(0, 0, 0, 1).due("game", -1);
    }

    private static void gameLeast() {
        sentence("how one who wins begins (100 times which heap, and how many; the least;");
        heaps(15).due("game", 14);
        heaps(0, 0, 0, 15).due("game", 314);
        heaps(1, 15).due("game", 115);
        heaps(15, 1).due("game", 15);
        heaps(1, 1, 2).due("game", 201);
        heaps(1, 2).due("game", 102);
        heaps(2, 3, 3).due("game", 2);
        heaps(7, 7, 1, 3).due("game", 2);
        // Several begin well: the least heap.
        heaps(3, 1, 3).due("game", 1);
        heaps(1, 2, 2, 0).due("game", 1);
        heaps(7, 2, 3).due("game", 6);
        heaps(2, 4, 7).due("game", 201);
    }
}
