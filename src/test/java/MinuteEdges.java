/** Promises 5, 6, 12, 13 and 14, and part 3: what each sentence that names a boundary says of it. */
public final class MinuteEdges extends Due {
    private static final int MOST = Integer.MAX_VALUE;
    private static final int LEAST = Integer.MIN_VALUE;

    public static void main(String[] args) {
        minutesRefused();
        minuteIsFull();
        minutesOneByOne();
        talkForItsMinute();
        talkLineByLine();
        namedAtMost();
        hicsAskedNow();
        triedIsEmptied();
        curesBehindTalk();
        frightsOfAll();
        breathsTillNone();
        glassesOfNone();
        glassesAtMost();
        sugarAtMost();
        eachCureAlone();
        whoeverHasNone();
        stopsAboveNone();
        stopsAtMost();
        stopsAskedEach();
        turnsByNumber();
        foundOut();
        passesAtMost();
        passesNothing();
        passesAsked();
        noNameLeft();
        calmMinutes();
        bookIsFull();
        bookTellsEach();
        goesRefused();
        goesInThought();
        nothingStays();
        stopsInThought();
        peaceAtMost();
        end("the minute's edges");
    }

    /** Persons without nerve, of whom none stops. */
    private static Trial lane(int persons) {
        return Trial.lane(new int[persons]).fine(0, "stops 0;", 1);
    }

    private static void minutesRefused() {
        sentence("MINUTES go by (1 .. 60): how often one was found out. NONE, and nothing is done, if one can't be,");
        for (int n : new int[] {0, -1, 61, LEAST, MOST, MOST - 9999}) {
            new Trial().leaves("minutes " + n, -1);
            Trial.rich().leaves("minutes " + n, -1);
        }
        new Trial().due("minutes 1", 0).due("look 3", 1).due("minutes 60", 0).due("look 3", 61);
        Trial x = lane(2);
        x.due("set 1 0 99", 1).due("minutes 60", 0).due("look 3", 60).due("of 0 1", 40);
    }

    private static void minuteIsFull() {
        sentence("NONE, and nothing is done, if one can't be, or MINUTE would be above 9999.");
        Trial x = lane(1);
        for (int i = 0; i < 166; i++) {
            x.due("minutes 60", 0);
        }
        x.due("set 1 0 50", 1);
        x.leaves("minutes 40", -1);
        x.leaves("minutes 60", -1);
        x.due("minutes 39", 0).due("look 3", 9999).due("of 0 1", 11);
        x.leaves("minutes 1", -1);
        x.leaves("minutes 60", -1);
        x.due("undo", 1).due("look 3", 9998).due("minutes 1", 0).due("look 3", 9999);
        x.due("book 0 0", 9960).due("book 38 0", 9998);
    }

    private static void minutesOneByOne() {
        sentence("how often one was found out.");
        Trial x = lane(2);
        x.due("act 0 0 1", 1);
        // 20, 10, 5, 2, 1 goes to and fro: who is found out behind his turn waits for the next minute.
        x.due("minutes 1", 1).due("of 0 1", 10).due("of 0 5", 1).due("of 1 5", 0);
        x.due("minutes 1", 2).due("of 0 1", 2).due("of 0 5", 2).due("of 1 5", 1);
        x.due("undo", 1).due("undo", 1).due("minutes 2", 3).due("of 0 1", 2);
        x.due("minutes 60", 2).due("of 0 5", 3).due("of 1 5", 2).due("look 1", 0);
    }

    private static void talkForItsMinute() {
        sentence("(a) Line by line of TALK for it:");
        Trial x = lane(3).fine(0, "stops 0;passes 0;", 2);
        x.fine(1, "at 0 person 0 names 1;at 2 person 0 names 2;", 2);
        x.due("minutes 1", 1).due("of 1 4", 1).due("of 2 4", 0);
        x.due("minutes 1", 0).due("of 1 4", 1).due("of 2 4", 0);
        x.due("minutes 1", 1).due("of 1 4", 1).due("of 2 4", 1);
        x.due("minutes 60", 0).due("of 1 4", 1).due("of 2 4", 1);
        Trial last = lane(2).fine(1, "at 999 person 0 names 1;", 1).fine(2, "at 999 sugar 0;", 1);
        for (int i = 0; i < 16; i++) {
            last.due("minutes 60", 0);
        }
        last.due("minutes 39", 0).due("look 3", 999).due("of 1 4", 0).due("of 0 0", 0);
        last.due("minutes 1", 1).due("of 1 4", 1).due("of 0 0", 1);
    }

    private static void talkLineByLine() {
        sentence("who is named: NAMED one more, hics is asked (NAMED so already, near by BY as ahead), HICCUPS so much more (99 at most), BY is"
            + " who named him, TRIED is empty.");
        Trial x = lane(3);
        x.fine(1, "at 0 person 2 names 1;at 0 person 0 names 1;at 0 person 1 names 2;", 3);
        x.due("minutes 1", 1);
        x.line(0, 0, 0, 1, 20);
        x.line(1, 0, 0, 1, 40);
        x.line(2, 0, 0, 2, 20);
        // The latest who named him is BY: 1 says 0, who has his turn no more; 2 says 0 in vain.
        x.line(3, 0, 3, 1, 0);
        x.line(4, 0, 2, 2, 0);
        x.due("of 0 1", 20).due("look 4", 5);
    }

    private static void namedAtMost() {
        sentence("HICCUPS so much more (99 at most)");
        int[][] sums = {{0, 98, 98}, {0, 99, 99}, {1, 98, 99}, {1, 99, 99}, {98, 1, 99}, {98, 2, 99}, {99, 1, 99}, {50, 48, 98}};
        for (int[] sum : sums) {
            Trial x = lane(2).fine(0, "hics " + sum[1] + ";", 1);
            x.due("set 1 0 " + sum[0], 1).due("act 0 1 0", 1).due("of 0 1", sum[2]);
            x.line(0, 0, 0, 0, sum[2]);
        }
    }

    private static void hicsAskedNow() {
        sentence("hics is asked (NAMED so already, near by BY as ahead)");
        Trial x = lane(4);
        x.fine(0, "hics 10*named+near+tried+strong;", 1);
        x.due("act 0 3 0", 1).due("of 0 1", 10);
        x.due("act 3 0 0", 1).due("of 0 3", 2);
        // Named twice, near by 3 and not by 1, one is tried, 10 strong: 34 more.
        x.due("act 0 1 0", 1).due("of 0 1", 44).due("of 0 2", 1);
    }

    private static void triedIsEmptied() {
        sentence("BY is who named him, TRIED is empty.");
        Trial x = lane(3);
        x.due("act 0 2 0", 1).due("act 3 0 0", 1).due("of 0 3", 2);
        // By the same one, too.
        x.due("act 0 2 0", 1).due("of 0 3", 0).due("of 0 2", 2);
    }

    private static void curesBehindTalk() {
        sentence("(b) Line by line of CURES for it:");
        Trial x = lane(3);
        x.fine(1, "at 1 person 0 names 1;", 1);
        x.fine(2, "at 1 breath 1 3;at 1 fright 1;at 1 breath 1 3;at 0 sugar 0;at 2 sugar 0;", 5);
        x.due("minutes 1", 0).due("of 0 0", 1);
        x.due("set 1 1 0", 1).due("minutes 1", 1);
        // 20 by name, 17, 8, 5; then he says 0, who has 2 of it.
        x.line(1, 1, 5, 1, 8);
        x.due("of 0 1", 2).due("of 0 0", 1);
        x.due("minutes 1", 2).due("of 0 0", 2);
    }

    private static void frightsOfAll() {
        sentence("fright: HICCUPS by 2 (downwards), FRIGHTS one more (of one who has none, too, with its line);");
        Trial x = lane(2);
        x.fine(2, "at 0 fright 0;at 1 fright 0;at 2 fright 0;", 3);
        x.due("minutes 1", 0).due("of 0 1", 0).due("of 0 6", 1).due("look 4", 1);
        x.line(0, 0, 5, 0, 0);
        x.due("set 1 0 3", 1).due("minutes 1", 0).due("of 0 1", 1).due("of 0 6", 2);
        x.line(1, 1, 5, 0, 1);
        x.due("minutes 1", 0).due("of 0 1", 0).due("of 0 6", 3).due("of 0 3", 0);
        x.line(3, 2, 5, 0, 0);
    }

    private static void breathsTillNone() {
        sentence("breath: HICCUPS N less (0 at least);");
        int[][] holds = {{5, 4, 1}, {5, 5, 0}, {5, 6, 0}, {99, 98, 1}, {99, 99, 0}, {1, 1, 0}, {1, 99, 0}, {0, 1, 0}, {2, 1, 1}};
        for (int[] hold : holds) {
            Trial x = lane(3);
            x.fine(2, "at 0 breath 0 " + hold[1] + ";", 1);
            x.due("act 0 2 0", 1).due("set 1 0 " + hold[0], 1).due("minutes 1", 0);
            x.due("of 0 1", hold[2]).due("of 0 2", hold[2] > 0 ? 2 : -1).due("of 0 3", hold[2] > 0 ? 2 : 0);
            x.due("look 2", hold[2] > 0 ? 0 : 1).due("look 4", hold[2] > 0 ? 2 : 1);
        }
    }

    private static void glassesOfNone() {
        sentence("glass: has the first one any: the second one has as many more (99 at most), his BY is the first one, his TRIED empty; the first"
            + " one has none (else nothing);");
        Trial x = lane(4);
        x.fine(2, "at 0 glass 1 0;at 1 glass 1 0;", 2);
        x.due("act 0 3 0", 1).due("act 3 0 0", 1).due("minutes 1", 0);
        // Nothing but that 0 goes on: no line, and BY and TRIED stay.
        x.due("of 0 1", 20).due("of 0 2", 3).due("of 0 3", 6).due("look 4", 3);
        x.line(2, 0, 2, 0, 2);
        x.due("act 0 2 1", 1).due("set 1 1 1", 1).due("minutes 1", 2);
        x.line(4, 1, 4, 1, 0);
        x.line(5, 1, 3, 0, 1);
        x.line(6, 1, 3, 1, 0);
        // 0 had 21 by 1 and none tried, so 1 is found out at once and has 10 of it, and 0 5 of those.
        x.due("of 1 1", 0).due("of 0 1", 5).due("of 0 2", 1);
    }

    private static void glassesAtMost() {
        sentence("the second one has as many more (99 at most)");
        int[][] sums = {{1, 0, 1}, {99, 0, 99}, {1, 97, 98}, {1, 98, 99}, {2, 98, 99}, {99, 99, 99}, {50, 49, 99}, {50, 50, 99}};
        for (int[] sum : sums) {
            Trial x = lane(3);
            x.due("act 0 2 0", 1).due("act 3 0 0", 1).due("set 1 0 " + sum[0], 1);
            x.due("act 0 2 1", 1).due("act 3 1 0", 1).due("set 1 1 " + sum[1], 1);
            x.due("act 2 0 1", 1).due("of 1 1", sum[2]).due("of 1 2", 0).due("of 1 3", 0);
            x.due("of 0 1", 0).due("of 0 2", -1).due("of 0 3", 0);
            x.line(4, 0, 4, 0, 1);
        }
    }

    private static void sugarAtMost() {
        sentence("sugar: NERVE one more (9 at most).");
        Trial x = Trial.lane(0, 8);
        x.fine(2, "at 0 sugar 0;at 0 sugar 1;at 1 sugar 1;at 2 sugar 1;at 2 sugar 1;", 5);
        x.due("minutes 1", 0).due("of 0 0", 1).due("of 1 0", 9);
        x.due("minutes 2", 0).due("of 0 0", 1).due("of 1 0", 9).due("look 4", 0);
    }

    /** What each line of CURES leaves of the first two: nerve, hiccups, frights. */
    private static void eachCureAlone() {
        sentence("2 CURES = {at MINUTE (fright PERSON | breath PERSON N | glass PERSON PERSON | sugar PERSON) ;}");
        cured("fright 0", new int[] {3, 20, 1}, new int[] {5, 7, 0}, 1);
        cured("breath 0 4", new int[] {3, 36, 0}, new int[] {5, 7, 0}, 0);
        cured("glass 0 1", new int[] {3, 0, 0}, new int[] {5, 47, 0}, 1);
        cured("glass 1 0", new int[] {3, 47, 0}, new int[] {5, 0, 0}, 1);
        cured("sugar 0", new int[] {4, 40, 0}, new int[] {5, 7, 0}, 0);
        cured("sugar 1", new int[] {3, 40, 0}, new int[] {6, 7, 0}, 0);
    }

    /** All stop behind the cures, and the book tells how strong they were just ahead. */
    private static void cured(String how, int[] first, int[] second, int lines) {
        Trial x = Trial.lane(3, 5, 0).fine(0, "stops 1000;", 1).fine(2, "at 0 " + how + ";", 1);
        x.due("act 0 2 0", 1).due("set 1 0 40", 1).due("set 1 1 7", 1).due("minutes 1", 0);
        int line = 1 + lines;
        for (int person = 0; person < 2; person++) {
            int[] due = person == 0 ? first : second;
            if (due[1] > 0) {
                x.line(line, 0, 1, person, due[1]);
                line++;
            }
            x.due("of " + person + " 0", due[0]).due("of " + person + " 1", 0).due("of " + person + " 2", -1).due("of " + person + " 3", 0);
            x.due("of " + person + " 4", 1 - person).due("of " + person + " 5", 0).due("of " + person + " 6", due[2]);
        }
        x.due("look 4", line);
        isNew(x, 2);
    }

    private static void isNew(Trial x, int person) {
        int[] due = {0, 0, -1, 0, 0, 0, 0};
        for (int what = 0; what < due.length; what++) {
            x.due("of " + person + " " + what, due[what]);
        }
    }

    private static void whoeverHasNone() {
        sentence("Whoever has none then (at any time): BY is NONE, TRIED empty.");
        for (String how : new String[] {"fright 0", "breath 0 1", "glass 0 2"}) {
            Trial x = lane(4);
            x.due("act 0 3 0", 1).due("act 3 0 0", 1).due("set 1 0 1", 1).due("of 0 2", 3).due("of 0 3", 2);
            x.fine(2, "at 0 " + how + ";", 1);
            x.ask("minutes 1");
            x.due("of 0 1", 0).due("of 0 2", -1).due("of 0 3", 0);
        }
        Trial stops = lane(4).fine(0, "stops 1000;", 1);
        stops.due("act 0 3 0", 1).due("act 3 0 0", 1).due("minutes 1", 0).due("of 0 1", 0).due("of 0 2", -1).due("of 0 3", 0);
        Trial finds = lane(4).fine(0, "stops 0;passes 0;", 2);
        finds.due("act 0 2 0", 1).due("minutes 2", 1).due("of 0 1", 0).due("of 0 2", -1).due("of 0 3", 0);
        Trial counts = lane(1);
        counts.due("set 1 0 1", 1).due("minutes 1", 0).due("of 0 1", 0).due("of 0 2", -1).due("of 0 3", 0);
    }

    private static void stopsAboveNone() {
        sentence("stops is asked, is it above 0, a DRAW of 1000: below it they stop (he has none).");
        // The first draw from 0 is 563.
        int[][] told = {{0, 0, 0}, {1, 1013904223, 0}, {563, 1013904223, 0}, {564, 1013904223, 1}, {1000, 1013904223, 1}};
        for (int[] one : told) {
            Trial x = lane(2).fine(0, "stops " + one[0] + ";", 1);
            x.due("set 1 1 8", 1).due("minutes 1", 0).due("look 5", one[1]);
            x.due("of 1 1", one[2] == 1 ? 0 : 8).due("of 1 3", one[2] == 1 ? 0 : 1);
            x.line(0, 0, one[2] == 1 ? 1 : 2, 1, one[2] == 1 ? 8 : 0);
        }
        // Nobody has any: nothing is drawn.
        Trial.lane(0, 0).due("minutes 60", 0).due("look 5", 0);
    }

    private static void stopsAtMost() {
        sentence("hics held to 1 .. 99, stops to 0 .. 1000, passes to 0 .. 99:");
        Trial x = lane(1);
        int[][] hics = {{0, 1}, {1, 1}, {2, 2}, {98, 98}, {99, 99}, {100, 99}, {9999, 99}};
        int[][] stops = {{0, 0}, {1, 1}, {999, 999}, {1000, 1000}, {1001, 1000}, {9999, 1000}};
        int[][] passes = {{0, 0}, {1, 1}, {98, 98}, {99, 99}, {100, 99}, {9999, 99}};
        held(x, "hics ", 7, hics);
        held(x, "stops ", 8, stops);
        held(x, "passes ", 9, passes);
        int[][] below = {{1, 1}, {9999, 1}};
        held(x, "hics 0-", 7, below);
        held(x, "stops 0-", 8, new int[][] {{1, 0}, {9999, 0}});
        held(x, "passes 0-", 9, new int[][] {{1, 0}, {9999, 0}});
        x.fine(0, "hics 8192*8192*32;stops 8192*8192*32;passes 8192*8192*32;", 3).due("of 0 7", 1).due("of 0 8", 0).due("of 0 9", 0);
        x.fine(0, "hics 8192*8192*32-1;stops 8192*8192*32-1;passes 8192*8192*32-1;", 3).due("of 0 7", 99).due("of 0 8", 1000).due("of 0 9", 99);
    }

    private static void held(Trial x, String word, int what, int[][] told) {
        for (int[] one : told) {
            x.fine(0, word + one[0] + ";", 1).due("of 0 " + what, one[1]);
        }
    }

    private static void stopsAskedEach() {
        sentence("none: hics: 20 less nerve, stops: 50 and 20 times nerve, passes: half of strong)");
        Trial x = Trial.lane(0, 9, 5);
        x.due("of 0 7", 20).due("of 1 7", 11).due("of 2 7", 15);
        x.due("of 0 8", 50).due("of 1 8", 230).due("of 2 8", 150);
        int[][] halves = {{0, 0}, {1, 0}, {2, 1}, {3, 1}, {98, 49}, {99, 49}};
        for (int[] half : halves) {
            x.due("set 1 0 " + half[0], 1).due("of 0 9", half[1]);
        }
    }

    private static void turnsByNumber() {
        sentence("(c) PERSON by PERSON who has HICCUPS (also who got them just ahead):");
        // 0 finds 3 out, who gets his turn yet; 3 finds 0 out, whose turn is over.
        Trial x = lane(4).fine(3, "person 0 says 3;", 1);
        x.due("act 0 3 0", 1).due("minutes 1", 2).due("of 0 1", 5).due("of 0 2", 3).due("of 3 1", 0);
        x.line(1, 0, 3, 0, 3);
        x.line(2, 0, 3, 3, 0);
        // The last one finds the first one out, who waits.
        Trial y = lane(3);
        y.due("act 0 0 2", 1).due("minutes 1", 1).due("of 0 1", 10).due("of 0 3", 0).due("look 4", 2);
    }

    private static void foundOut() {
        sentence("Else he says the first name of his order that is not TRIED (and not his own): is it BY: that one is found out: FOUND one more,",
            "Is it not: TRIED has it.");
        Trial x = lane(3);
        x.due("act 0 2 0", 1);
        x.due("act 3 0 0", 1).due("of 0 3", 2).due("of 1 5", 0);
        x.due("act 3 0 0", 1).due("of 2 5", 1).due("of 2 1", 10).due("of 0 1", 0);
        x.line(1, 0, 2, 0, 1);
        x.line(2, 0, 3, 0, 2);
        // Named by nobody: nobody is found out, whomever he says.
        Trial y = lane(3);
        y.due("set 1 1 4", 1).due("minutes 3", 0).due("of 1 3", 5).due("of 1 1", 3).due("of 0 5", 0).due("of 2 5", 0);
    }

    private static void passesAtMost() {
        sentence("HICCUPS of that one so much more (99 at most);");
        int[][] sums = {{0, 99, 99}, {1, 98, 99}, {98, 1, 99}, {98, 2, 99}, {97, 1, 98}, {99, 99, 99}, {99, 1, 99}};
        for (int[] sum : sums) {
            Trial x = lane(3).fine(0, "passes " + sum[1] + ";", 1);
            x.due("act 0 2 0", 1).due("act 3 0 0", 1).due("set 1 0 " + sum[0], 1);
            x.due("act 0 0 1", 1).due("act 3 1 0", 1);
            x.due("of 0 1", sum[2]).due("of 0 2", 1).due("of 0 3", 0).due("of 0 5", 1).due("of 1 1", 0).due("of 1 2", -1);
        }
    }

    private static void passesNothing() {
        sentence("is what passes told above 0, his BY is who said it, his TRIED empty (else they stay); who said it has none.");
        for (int passes = 0; passes < 2; passes++) {
            Trial x = lane(3).fine(0, "passes " + passes + ";", 1);
            x.due("act 0 2 0", 1).due("act 3 0 0", 1).due("set 1 0 7", 1).due("act 0 0 1", 1).due("act 3 1 0", 1);
            x.due("of 0 1", 7 + passes).due("of 0 2", passes == 0 ? 2 : 1).due("of 0 3", passes == 0 ? 2 : 0);
            x.due("of 0 5", 1).due("of 1 1", 0).due("of 1 2", -1).due("of 1 3", 0);
        }
        // At 99 nothing is added, but passes told more than 0.
        Trial x = lane(3).fine(0, "passes 1;", 1);
        x.due("act 0 2 0", 1).due("act 3 0 0", 1).due("set 1 0 99", 1).due("act 0 0 1", 1).due("act 3 1 0", 1);
        x.due("of 0 1", 99).due("of 0 2", 1).due("of 0 3", 0);
        // One who has none and gets none stays so.
        Trial y = lane(3).fine(0, "passes 0;", 1);
        y.due("act 0 0 1", 1).due("act 3 1 0", 1).due("of 0 1", 0).due("of 0 2", -1).due("of 0 5", 1).due("look 1", 0);
    }

    private static void passesAsked() {
        sentence("passes is asked (of who said it),");
        Trial x = lane(3);
        x.fine(0, "passes strong+10*tried+30*near when named=1;passes 99;", 2);
        x.due("act 0 2 0", 1).due("set 1 0 4", 1).due("act 3 0 0", 1).due("act 3 0 0", 1);
        // 4 strong, one in vain, two away.
        x.due("of 2 1", 74).due("of 2 2", 0);
    }

    private static void noNameLeft() {
        sentence("Is no name left (one PERSON alone has none): HICCUPS one less.");
        Trial x = lane(1);
        x.due("set 1 0 2", 1).due("of 0 10", -1).due("minutes 1", 0).due("of 0 1", 1);
        x.line(0, 0, 6, 0, 1);
        x.due("act 3 0 0", 1).due("of 0 1", 0);
        x.line(1, 1, 6, 0, 0);
        Trial y = lane(2);
        y.due("set 1 1 2", 1).due("minutes 1", 0).due("of 1 3", 1).due("of 1 1", 2);
        y.due("minutes 1", 0).due("of 1 3", 1).due("of 1 1", 1).due("minutes 1", 0).due("of 1 1", 0).due("of 1 3", 0);
        y.line(2, 2, 6, 1, 0);
    }

    private static void calmMinutes() {
        sentence("(d) Has nobody any: CALM one more. MINUTE is one more.");
        Trial x = lane(2);
        x.due("minutes 1", 0).due("look 2", 1).due("look 3", 1);
        // One who has them only within the minute: named, and frightened and held till none is left.
        x.fine(1, "at 1 person 0 names 1;", 1).fine(2, "at 1 breath 1 20;", 1);
        x.due("minutes 1", 0).due("look 2", 2).due("look 3", 2).due("look 4", 1);
        // By hand it is no minute.
        x.due("act 0 0 1", 1).due("set 1 1 0", 1).due("look 2", 2).due("look 3", 2);
        x.due("set 1 1 1", 1).due("minutes 1", 0).due("look 2", 2).due("look 3", 3);
    }

    private static void bookIsFull() {
        sentence("THE BOOK (150 lines; no more then):");
        Trial x = lane(2);
        for (int i = 0; i < 149; i++) {
            x.due("act 0 0 1", 1);
        }
        x.due("look 4", 149).due("book 149 0", -1);
        x.due("act 1 1 0", 1).due("look 4", 150).due("book 150 0", -1);
        x.line(149, 0, 5, 1, 49);
        // What would have a line is done without it.
        x.due("act 1 1 0", 1).due("of 1 1", 24).due("of 1 6", 2).due("look 4", 150);
        x.line(149, 0, 5, 1, 49);
        x.due("minutes 1", 1).due("look 4", 150).due("book 150 0", -1).due("of 0 1", 12);
        x.line(0, 0, 0, 1, 20);
        x.line(149, 0, 5, 1, 49);
        x.due("undo", 1).due("look 4", 150).due("undo", 1).due("look 4", 150).due("undo", 1).due("look 4", 149).due("book 149 1", -1);
        x.due("act 3 1 0", 1).due("look 4", 150);
        x.line(149, 0, 3, 1, 0);
    }

    private static void bookTellsEach() {
        sentence("MINUTE, what (0 named, 1 stopped, 2 in vain, 3 found out, 4 handed on, 5 a fright, 6 no name left), who (0 who is named; 3 who said"
            + " it; 4 the first one; else who has them), how much (0: HICCUPS then; 1: HICCUPS there were; 2: whom he said; 3: who is found out; 4:"
            + " to whom; 5: HICCUPS then; 6: HICCUPS then).");
        Trial x = lane(3).fine(0, "stops 1000 when minute=2;stops 0;", 2);
        x.fine(1, "at 1 person 2 names 1;", 1).fine(2, "at 1 fright 1;at 1 glass 1 0;", 2);
        x.due("minutes 1", 0).due("look 4", 0).due("minutes 2", 2);
        x.line(0, 1, 0, 1, 20);
        x.line(1, 1, 5, 1, 10);
        x.line(2, 1, 4, 1, 0);
        // 0 has 10 by 1: 1 is found out just ahead of his turn, and finds 0 out, who has 2 then.
        x.line(3, 1, 3, 0, 1);
        x.line(4, 1, 3, 1, 0);
        x.line(5, 2, 1, 0, 2);
        x = lane(3).fine(0, "stops 1000 when minute=2;stops 0;", 2);
        x.due("minutes 1", 0).due("set 1 1 9", 1).due("minutes 2", 0);
        x.line(0, 1, 2, 1, 0);
        x.line(1, 2, 1, 1, 9);
        x.due("look 4", 2).due("act 0 0 2", 1).due("act 3 2 0", 1);
        x.line(2, 3, 0, 2, 20);
        x.line(3, 3, 3, 2, 0);
        x.due("act 3 0 0", 1).due("act 3 0 0", 1).due("set 1 0 5", 1).due("act 3 0 0", 1).due("act 3 0 0", 1).due("act 3 0 0", 1);
        x.line(8, 3, 6, 0, 4);
    }

    private static void goesRefused() {
        sentence("GOES for n (1 .. 60) MINUTES:",
            "GOES what 0 HICCUPS, 1 FOUND, 2 NAMED, 3 CALM. NONE if one can't be, or another what.");
        Trial x = lane(2);
        x.due("set 1 0 99", 1);
        for (int what = -1; what <= 4; what++) {
            for (int n : new int[] {0, -1, 61, LEAST, MOST}) {
                x.due("goes " + n + " " + what, -1);
            }
        }
        for (int what : new int[] {-1, 4, LEAST, MOST}) {
            x.due("goes 1 " + what, -1).due("goes 60 " + what, -1);
        }
        x.due("goes 1 0", 99).due("goes 2 0", 98).due("goes 60 0", 40);
        x.due("goes 1 3", 0).due("set 1 0 0", 1).due("goes 1 3", 1).due("goes 60 3", 60);
        // In thought a minute may be above 9999.
        Trial late = new Trial();
        for (int i = 0; i < 166; i++) {
            late.due("minutes 60", 0);
        }
        late.due("minutes 39", 0).due("goes 1 3", 10000).due("goes 60 3", 10059);
    }

    private static void goesInThought() {
        sentence("GOES for n (1 .. 60) MINUTES: HICCUPS of all, FOUND of all, NAMED of all, CALM then.");
        Trial x = lane(14);
        for (int i = 0; i < 14; i++) {
            x.due("set 1 " + i + " 99", 1);
        }
        x.due("goes 1 0", 14 * 99).due("goes 13 0", 14 * 99).due("goes 14 0", 14 * 98).due("goes 60 3", 0);
        x.due("set 1 0 0", 1).due("act 0 1 0", 1).due("goes 1 2", 1).due("goes 1 1", 2).due("goes 60 2", 1);
        x.fine(1, "at 0 person 0 names 1;at 5 person 1 names 0;", 2);
        x.due("goes 1 2", 2).due("goes 5 2", 2).due("goes 6 2", 3);
    }

    private static void nothingStays() {
        sentence("IN THOUGHT (nothing of it stays; no DRAWS:");
        Trial x = Trial.rich();
        x.leaves("peace", Trial.rich().ask("peace"));
        for (int what = 0; what < 4; what++) {
            long goes = Trial.rich().ask("goes 60 " + what);
            x.leaves("goes 60 " + what, goes);
        }
        // Names, cures, words in vain and found ones, stops: each would leave a trace.
        Trial y = Trial.lane(0, 3, 9).fine(0, "stops 600 when minute=2;stops 1;", 2);
        y.fine(1, "at 0 person 0 names 1;at 1 person 0 names 2;", 2).fine(2, "at 0 sugar 0;at 1 fright 2;at 1 glass 2 1;", 3);
        y.due("state 5", 0);
        y.leaves("goes 3 3", 1);
        y.leaves("peace", 0);
        y.due("look 5", 5);
    }

    private static void stopsInThought() {
        sentence("they stop, if stops is 500 at least)");
        int[][] told = {{0, 9}, {1, 9}, {499, 9}, {500, 0}, {501, 0}, {1000, 0}};
        for (int[] one : told) {
            Trial x = lane(3).fine(0, "stops " + one[0] + ";", 1);
            x.due("set 1 0 9", 1).due("goes 1 0", one[1]).due("goes 1 3", one[1] == 0 ? 1 : 0).due("peace", one[1] == 0 ? 1 : 11);
        }
    }

    private static void peaceAtMost() {
        sentence("PEACE: behind how many MINUTES nobody has any (0: now; NONE: not within 60).");
        // One alone has one less each minute.
        int[][] told = {{0, 0}, {1, 1}, {2, 2}, {59, 59}, {60, 60}, {61, -1}, {99, -1}};
        for (int[] one : told) {
            Trial x = lane(1);
            x.due("set 1 0 " + one[0], 1).due("peace", one[1]);
        }
        new Trial().due("peace", 0);
        // It is calm now, though one will be named.
        Trial x = lane(2).fine(1, "at 0 person 0 names 1;", 1);
        x.due("peace", 0);
        // And behind the minute in which all is over, though it goes on behind it.
        x.fine(0, "stops 500;", 1).fine(1, "at 1 person 0 names 1;", 1).due("set 1 0 5", 1).due("peace", 1).due("goes 2 2", 1);
    }
}
