/** Promises 1 to 6, 11, 12, 15 and 40, and part 1: what each sentence that names a boundary says of it. */
public final class LaneEdges extends Due {
    private static final int MOST = Integer.MAX_VALUE;
    private static final int LEAST = Integer.MIN_VALUE;

    public static void main(String[] args) {
        newObject();
        none();
        stateIsAnInt();
        drawsWrap();
        drawsHaveNoSign();
        fourteenPersons();
        nerves();
        strengths();
        firstWithNothing();
        calmAndMinute();
        setsRefused();
        byAndTriedStay();
        namesRefused();
        frightsRefused();
        glassesRefused();
        sayingsRefused();
        otherActs();
        whatIsToldOfPersons();
        whomOneWouldSay();
        orderByNumber();
        linesOfTheBook();
        stepsBack();
        looks();
        eachLook();
        eachOf();
        usedAtMost();
        end("the lane's edges");
    }

    private static void newObject() {
        sentence("`HiccupLane()`: Nobody in the lane.");
        Trial x = new Trial();
        for (int what = 0; what <= 10; what++) {
            x.due("look " + what, 0);
        }
        x.due("of 0 0", -2).due("back 0", -1).due("book 0 0", -1).due("peace", 0);
        x.due("goes 1 0", 0).due("goes 1 1", 0).due("goes 1 2", 0).due("goes 1 3", 1);
        x.due("fault 0", 0).due("fault 1", -1);
        x.due("held 0", 0).due("held 1", 0).due("least 0 0", -1).due("calls 0", 0).due("gossip 0 1 0", 0);
        x.due("terms 0 9", 0).due("terms 1 9", 0).due("tree 0 1 1", 1).due("stair 1 1 0", 1).due("game", -1);
        x.leaves("end 1", 0);
        x.leaves("undo", 0);
        x.leaves("image 0", 0);
        x.leaves("act 0 0 1", 0);
        x.leaves("set 0 0 0", 0);
        x.leaves("state 0", 0);
    }

    private static void none() {
        sentence("The constants: `NONE = -1`: None.");
        due("NONE", HiccupLane.NONE, -1);
    }

    private static void stateIsAnInt() {
        sentence("STATE is told: what it was.",
            "STATE of draws (an int, 0 at first);");
        Trial x = new Trial();
        x.due("state " + MOST, 0).due("look 5", MOST);
        x.due("state " + LEAST, MOST).due("look 5", LEAST);
        x.due("state -1", LEAST).due("look 5", -1);
        x.due("state 0", -1).due("look 5", 0);
    }

    /** One who has hiccups alone in the lane, and a law by which each minute takes a draw. */
    private static Trial drawing(int state, int stops) {
        Trial x = Trial.lane(0);
        x.fine(0, "stops " + stops + ";", 1);
        x.due("set 1 0 5", 1);
        x.due("state " + state, 0);
        return x;
    }

    private static void drawsWrap() {
        sentence("it becomes 1664525 times itself + 1013904223 (ints, which wrap)");
        for (int state : new int[] {0, 1, -1, 2, 1290, 1291, MOST, LEAST, 123456789}) {
            Trial x = drawing(state, 1);
            x.due("minutes 1", 0);
            x.due("look 5", (int) (state * 1664525L + 1013904223L));
        }
        Trial x = drawing(0, 1);
        x.due("minutes 1", 0).due("look 5", 1013904223);
        x.due("minutes 1", 0).due("look 5", 1196435762);
        x.due("minutes 1", 0).due("look 5", -775096599);
    }

    /** The STATE from which the next draw is made of these 24 bits. */
    private static int stateAhead(int bits) {
        int inverse = 1664525;
        for (int i = 0; i < 5; i++) {
            inverse *= 2 - 1664525 * inverse;
        }
        return ((bits << 8 | 255) - 1013904223) * inverse;
    }

    private static void drawsHaveNoSign() {
        sentence("then it is its highest 24 bits (without sign) modulo m");
        int[][] drawn = {{0, 0}, {1, 1}, {499, 499}, {999, 999}, {1000, 0}, {1001, 1}, {0x7fffff, 607}, {0x800000, 608}, {0xffffff, 215}};
        for (int[] one : drawn) {
            stopsBelow(one[0], one[1], false);
            stopsBelow(one[0], one[1] + 1, true);
        }
    }

    private static void stopsBelow(int bits, int stops, boolean isOver) {
        Trial x = drawing(stateAhead(bits), stops);
        x.due("minutes 1", 0);
        // Alone he has no name to say, so he has one less.
        x.due("of 0 1", isOver ? 0 : 4);
        x.due("look 5", stops == 0 ? stateAhead(bits) : bits << 8 | 255);
        x.line(0, 0, isOver ? 1 : 6, 0, isOver ? 5 : 4);
    }

    private static void fourteenPersons() {
        sentence("A PERSON: the number; NONE if one can't be, or there are fourteen.");
        Trial x = new Trial();
        for (int i = 0; i < 14; i++) {
            x.due("look 0", i).due("person 5", i);
        }
        x.leaves("person 5", -1);
        x.due("look 0", 14).due("of 13 0", 5).due("of 14 0", -2);
        // What can be undone stays as well.
        x.due("act 0 0 1", 1).due("act 0 0 1", 1);
        x.leaves("person 5", -1);
        // However long the book is, there is place for the fourteenth.
        Trial y = Trial.lane(0, 0, 0, 0, 0, 0, 0, 0, 0, 0, 0, 0);
        for (int i = 0; i < 20; i++) {
            y.due("act 0 0 1", 1);
        }
        y.due("person 5", 12).due("person 5", 13).due("person 5", -1);
        Trial.full().leaves("person 0", -1);
    }

    private static void nerves() {
        sentence("PERSONS 0 .. 13 as they come: NERVE 0 .. 9,");
        Trial x = new Trial();
        for (int nerve : new int[] {-1, 10, LEAST, MOST}) {
            x.leaves("person " + nerve, -1);
            Trial.rich().leaves("person " + nerve, -1);
        }
        x.due("person 0", 0).due("of 0 0", 0);
        x.due("person 9", 1).due("of 1 0", 9);
        x.due("set 0 0 9", 1).due("of 0 0", 9);
        x.due("set 0 1 0", 1).due("of 1 0", 0);
        for (int nerve : new int[] {-1, 10, LEAST, MOST}) {
            x.leaves("set 0 0 " + nerve, 0);
        }
    }

    private static void strengths() {
        sentence("HICCUPS 0 .. 99 (how strong; 0: none, at first)");
        Trial x = Trial.lane(3, 3);
        x.due("of 0 1", 0);
        for (int hiccups : new int[] {1, 99, 98, 0}) {
            x.due("set 1 0 " + hiccups, 1).due("of 0 1", hiccups).due("look 1", hiccups > 0 ? 1 : 0);
        }
        for (int hiccups : new int[] {-1, 100, LEAST, MOST}) {
            x.leaves("set 1 0 " + hiccups, 0);
        }
        x.due("set 1 0 9", 1);
        for (int hiccups : new int[] {-1, 100, LEAST, MOST}) {
            x.leaves("set 1 0 " + hiccups, 0);
        }
        // The nerve may be told of one who has hiccups, and leaves them.
        x.due("set 0 0 4", 1).due("of 0 1", 9);
    }

    private static void firstWithNothing() {
        sentence("BY a PERSON (who named him, or handed them on; NONE at first), TRIED (a set of PERSONS: whom he said in vain, empty at"
            + " first), NAMED, FOUND (how often one was found out), FRIGHTS (ints, 0 at first).");
        Trial x = Trial.lane(1, 2);
        isNew(x, 1, 2);
        x.due("image 1", 1);
        x.due("person 7", 2);
        isNew(x, 2, 7);
        // Another one had this number, and is there no more.
        x.due("act 0 2 0", 1).due("act 3 0 0", 1).due("act 3 0 0", 1).due("act 0 0 2", 1).due("act 0 1 2", 1).due("act 1 2 0", 1).due("act 3 2 0", 1);
        x.due("of 2 1", 17).due("of 2 2", 1).due("of 2 3", 1).due("of 2 4", 2).due("of 2 5", 1).due("of 2 6", 1);
        x.due("image 0", 1).due("of 2 0", -2);
        x.due("person 8", 2);
        isNew(x, 2, 8);
    }

    private static void isNew(Trial x, int person, int nerve) {
        x.due("of " + person + " 0", nerve).due("of " + person + " 1", 0).due("of " + person + " 2", -1);
        for (int what = 3; what <= 6; what++) {
            x.due("of " + person + " " + what, 0);
        }
    }

    private static void calmAndMinute() {
        sentence("CALM (minutes behind which nobody had any, an int, 0 at first), MINUTE 0 .. 9999 (0 at first).");
        Trial x = Trial.lane(0);
        x.fine(0, "stops 0;", 1);
        x.due("look 2", 0).due("look 3", 0);
        x.due("minutes 1", 0).due("look 2", 1).due("look 3", 1);
        // He has them behind the first of these minutes, and none behind the second and third.
        x.due("set 1 0 2", 1).due("minutes 3", 0).due("look 2", 3).due("look 3", 4);
        x.due("minutes 56", 0);
        for (int i = 0; i < 165; i++) {
            x.due("minutes 60", 0);
        }
        x.due("look 3", 9960).due("minutes 39", 0).due("look 3", 9999).due("look 2", 9998);
    }

    private static void setsRefused() {
        sentence("What 0 NERVE, 1 HICCUPS (BY, TRIED stay, if it is above 0) of PERSON who: true; false if one can't be, or another what.");
        for (int what : new int[] {-1, 2, LEAST, MOST}) {
            Trial.rich().leaves("set " + what + " 0 1", 0);
        }
        for (int who : new int[] {-1, 5, 14, LEAST, MOST}) {
            Trial.rich().leaves("set 0 " + who + " 1", 0);
            Trial.rich().leaves("set 1 " + who + " 1", 0);
        }
        Trial.full().leaves("set 1 14 1", 0);
        Trial.full().due("set 1 13 1", 1).due("of 13 1", 1);
        Trial.rich().due("set 0 4 1", 1).due("of 4 0", 1);
    }

    private static void byAndTriedStay() {
        sentence("1 HICCUPS (BY, TRIED stay, if it is above 0)");
        Trial x = Trial.lane(0, 0, 0);
        x.due("act 0 2 0", 1).due("act 3 0 0", 1);
        x.due("set 1 0 99", 1).due("of 0 2", 2).due("of 0 3", 2);
        x.due("set 1 0 1", 1).due("of 0 2", 2).due("of 0 3", 2);
        x.due("set 1 0 0", 1).due("of 0 2", -1).due("of 0 3", 0);
    }

    private static void namesRefused() {
        sentence("By hand: to NAME one (unlike),");
        for (int other : new int[] {-1, 5, 14, LEAST, MOST}) {
            Trial.rich().leaves("act 0 0 " + other, 0);
            Trial.rich().leaves("act 0 " + other + " 0", 0);
        }
        Trial.rich().leaves("act 0 3 3", 0);
        Trial.full().leaves("act 0 14 0", 0);
        Trial.full().leaves("act 0 0 14", 0);
        Trial.full().due("act 0 13 0", 1).due("of 0 2", 13).due("act 0 0 13", 1).due("of 13 2", 0);
        // One who has none may name, and one who has them may be named again.
        Trial.lane(0, 0).due("act 0 0 1", 1).due("act 0 0 1", 1).due("of 1 4", 2);
        new Trial().leaves("act 0 0 0", 0);
        Trial.lane(0).leaves("act 0 0 0", 0);
    }

    private static void frightsRefused() {
        sentence("to FRIGHTEN one who has HICCUPS,",
            "Quotients go downwards.");
        for (int who : new int[] {-1, 5, LEAST, MOST}) {
            Trial.rich().leaves("act 1 " + who + " 0", 0);
        }
        Trial x = Trial.lane(0, 0);
        x.leaves("act 1 0 1", 0);
        int[][] halves = {{99, 49}, {98, 49}, {3, 1}, {2, 1}, {1, 0}};
        for (int i = 0; i < halves.length; i++) {
            x.due("set 1 0 " + halves[i][0], 1).due("act 1 0 0", 1);
            x.due("of 0 1", halves[i][1]).due("of 0 6", i + 1);
            x.line(i, 0, 5, 0, halves[i][1]);
        }
        x.leaves("act 1 0 1", 0);
    }

    private static void glassesRefused() {
        sentence("to hand them on by a GLASS (who has them, to another),");
        for (int other : new int[] {-1, 5, LEAST, MOST}) {
            Trial.rich().leaves("act 2 0 " + other, 0);
            Trial.rich().leaves("act 2 " + other + " 0", 0);
        }
        Trial x = Trial.lane(0, 0);
        x.leaves("act 2 0 1", 0);
        x.due("set 1 0 1", 1);
        x.leaves("act 2 0 0", 0);
        x.due("act 2 0 1", 1).due("of 0 1", 0).due("of 1 1", 1).due("of 1 2", 0);
        x.leaves("act 2 0 1", 0);
    }

    private static void sayingsRefused() {
        sentence("to SAY a name (as in (c), stops not asked; who has HICCUPS): as there.");
        for (int who : new int[] {-1, 5, LEAST, MOST}) {
            Trial.rich().leaves("act 3 " + who + " 0", 0);
        }
        Trial x = Trial.lane(0, 0);
        x.fine(0, "stops 1000;", 1);
        x.leaves("act 3 0 1", 0);
        x.due("set 1 0 1", 1).due("act 3 0 0", 1).due("of 0 3", 2).due("of 0 1", 1).due("look 5", 0);
        x.due("act 3 0 0", 1).due("of 0 1", 0);
        x.leaves("act 3 0 1", 0);
    }

    private static void otherActs() {
        sentence("3 who SAYS a name (1, 3: v not asked): true; false if it can't be, or another what.",
            "What 0 PERSON who NAMES v, 1 who is FRIGHTENED, 2 who hands on by a GLASS to v,");
        for (int what : new int[] {-1, 4, LEAST, MOST}) {
            Trial.rich().leaves("act " + what + " 0 1", 0);
        }
        for (int v : new int[] {-1, 0, 2, LEAST, MOST}) {
            Trial x = Trial.lane(0, 0);
            x.due("set 1 0 8", 1);
            x.due("act 1 0 " + v, 1).due("of 0 1", 4);
            x.due("act 3 0 " + v, 1).due("of 0 3", 2);
        }
    }

    private static void whatIsToldOfPersons() {
        sentence("NONE - 1 if there is none such, or another what.",
            "Of a PERSON what 0 NERVE, 1 HICCUPS, 2 BY, 3 TRIED, 4 NAMED, 5 FOUND, 6 FRIGHTS, 7 hics, 8 stops, 9 passes,");
        Trial x = Trial.lane(3, 4);
        for (int what : new int[] {0, 1, 6, 7, 9, 10, 20, 33}) {
            for (int who : new int[] {-1, 2, LEAST, MOST}) {
                x.leaves("of " + who + " " + what, -2);
            }
        }
        for (int what : new int[] {-1, 11, 15, 19, 34, LEAST, MOST}) {
            x.leaves("of 0 " + what, -2);
            x.leaves("of 1 " + what, -2);
        }
        x.due("of 1 0", 4).due("of 1 9", 0).due("of 1 10", 0).due("of 1 20", 0).due("of 1 33", -1);
        Trial.full().due("of 13 0", 3).due("of 14 0", -2).due("of 14 33", -2);
    }

    private static void whomOneWouldSay() {
        sentence("10 whom he would say (NONE: no name left; also of one without)");
        Trial x = Trial.lane(0, 0, 0);
        x.due("of 0 10", 1).due("of 2 10", 0);
        x.due("set 1 0 3", 1).due("act 3 0 0", 1).due("of 0 10", 2).due("act 3 0 0", 1).due("of 0 10", -1);
        Trial.lane(0).due("of 0 10", -1).due("of 0 20", -1);
    }

    private static void orderByNumber() {
        sentence("20 + k (k 0 .. 13) whom he says k-th of his order (TRIED or not; NONE).");
        Trial x = Trial.full();
        x.due("of 13 20", 0).due("of 13 32", 12).due("of 13 33", -1).due("of 13 34", -2).due("of 13 19", -2);
        x.due("of 0 20", 1).due("of 0 32", 13).due("of 0 33", -1);
        Trial y = Trial.lane(0, 0, 0);
        y.due("of 1 20", 0).due("of 1 21", 2).due("of 1 22", -1).due("of 1 33", -1);
        y.due("set 1 1 9", 1).due("act 3 1 0", 1).due("of 1 3", 1).due("of 1 20", 0);
    }

    private static void linesOfTheBook() {
        sentence("Of line i of THE BOOK what 0 MINUTE, 1 what, 2 who, 3 how much. NONE if there is none such, or another what.");
        Trial x = Trial.lane(0, 0);
        x.due("book 0 0", -1);
        x.due("act 0 1 0", 1);
        x.line(0, 0, 0, 0, 20);
        for (int what = 0; what < 4; what++) {
            x.due("book 1 " + what, -1).due("book -1 " + what, -1).due("book " + LEAST + " " + what, -1).due("book " + MOST + " " + what, -1);
            // Four times this number wraps to a line that there is.
            x.due("book 1073741824 " + what, -1);
        }
        for (int what : new int[] {-1, 4, LEAST, MOST}) {
            x.due("book 0 " + what, -1);
        }
        Trial y = Trial.full();
        y.due("book 149 1", 2).due("book 150 1", -1).due("book 148 4", -1).due("book 149 -1", -1);
    }

    private static void stepsBack() {
        sentence("BACK from a PERSON: how many steps, each from one to who BY is, till BY is NONE, or a step comes to one who was there (it"
            + " counts, too).",
            "BACK. NONE if there is none such.");
        Trial x = Trial.lane(0, 0, 0, 0);
        for (int who : new int[] {-1, 4, LEAST, MOST}) {
            x.leaves("back " + who, -1);
        }
        x.due("back 0", 0).due("back 3", 0);
        x.due("act 0 1 0", 1).due("back 0", 1).due("back 1", 0);
        x.due("act 0 0 1", 1).due("back 0", 2).due("back 1", 2);
        x.due("act 0 2 1", 1).due("act 0 3 2", 1).due("back 0", 3).due("back 1", 2).due("back 2", 1);
        x.due("act 0 2 3", 1).due("back 0", 4).due("back 1", 3).due("back 2", 2).due("back 3", 2);
        Trial all = Trial.lane(0, 0, 0, 0, 0, 0, 0, 0, 0, 0, 0, 0, 0, 0);
        for (int i = 0; i < 13; i++) {
            all.due("act 0 " + (i + 1) + " " + i, 1);
        }
        all.due("back 0", 13).due("back 13", 0).due("back 14", -1);
        all.due("act 0 0 13", 1).due("back 0", 14).due("back 13", 14);
        all.due("act 0 12 13", 1).due("back 0", 14).due("back 13", 2);
    }

    private static void looks() {
        sentence("NONE - 99999 for another what. (STATE as it is.)",
            "What 0 PERSONS, 1 who have HICCUPS (a set), 2 CALM, 3 MINUTE, 4 lines of THE BOOK, 5 STATE, 6 lines of THE LAW, 7 of TALK, 8 of CURES, 9"
            + " of ROWS, 10 what can be undone.");
        for (int what : new int[] {-1, 11, LEAST, MOST}) {
            Trial.rich().leaves("look " + what, -100000);
        }
        // A set of all fourteen; each row full.
        Trial x = Trial.full();
        x.due("look 0", 14).due("look 1", (1 << 14) - 1).due("look 4", 150);
        for (int what = 6; what <= 9; what++) {
            x.due("look " + what, 16);
        }
        x.due("look 10", 6).due("state " + LEAST, 0).due("look 5", LEAST);
    }

    private static void eachLook() {
        sentence("1 who have HICCUPS (a set), 2 CALM, 3 MINUTE, 4 lines of THE BOOK, 5 STATE,", "10 what can be undone.");
        // No two of them alike, so that none stands for another one.
        Trial x = Trial.lane(0, 0, 0, 0, 0, 0).fine(0, "stops 0;", 1);
        x.fine(1, "at 99 person 0 names 1;".repeat(2), 2).fine(2, "at 99 sugar 0;".repeat(7), 7).fine(3, "person 0 says 1;".repeat(10), 10);
        x.due("state -44", 0).due("minutes 9", 0).due("set 1 5 1", 1).due("minutes 5", 0).due("set 1 5 3", 1).due("set 1 4 1", 1);
        x.due("act 0 0 5", 1).due("act 1 5 0", 1).due("act 1 5 0", 1);
        int[] due = {6, 48, 9, 14, 8, -44, 1, 2, 7, 10, 3};
        for (int what = 0; what < due.length; what++) {
            x.due("look " + what, due[what]);
        }
    }

    private static void eachOf() {
        sentence("2 BY, 3 TRIED, 4 NAMED, 5 FOUND, 6 FRIGHTS, 7 hics, 8 stops, 9 passes, 10 whom he would say");
        Trial x = Trial.lane(8, 0, 0, 0, 0, 0, 0).fine(0, "hics 40;stops 200;passes 30;", 3);
        x.due("act 0 1 0", 1).due("act 0 1 0", 1).due("act 0 1 0", 1).due("act 0 6 0", 1).due("act 0 6 0", 1);
        x.due("act 0 0 3", 1).due("act 3 3 0", 1).due("of 0 5", 1).due("act 1 0 0", 1).due("act 1 0 0", 1);
        x.due("act 0 4 0", 1).due("act 0 4 0", 1).due("act 3 0 0", 1).due("act 3 0 0", 1).due("set 1 0 77", 1);
        int[] due = {8, 77, 4, 6, 7, 1, 2, 40, 200, 30, 3};
        for (int what = 0; what < due.length; what++) {
            x.due("of 0 " + what, due[what]);
        }
    }

    private static void usedAtMost() {
        sentence("An object is used for at most 512 calls after it has been made;");
        Trial x = Trial.lane(0, 0);
        for (int i = 3; i <= 510; i++) {
            x.due("act 0 0 1", 1);
        }
        // The 511th and the 512th call.
        x.due("of 1 4", 508).due("look 4", 150);
        Trial y = Trial.lane(0, 0);
        for (int i = 3; i <= 511; i += 2) {
            y.due("act 0 0 1", 1).due("undo", 1);
        }
    }
}
