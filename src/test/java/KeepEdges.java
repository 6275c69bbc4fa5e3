/** Promises 38 and 39 and what part 4 says of UNDO and of THE IMAGE: each sentence that names a boundary. */
public final class KeepEdges extends Due {
    /** Calls that tell something for thought, or take it back. */
    private static final String[] FOR_THOUGHT = {"breath 5", "breath -100", "call 1 2 3", "call -1 0 0", "way 1 2 3", "way -1 0 0", "term 0 5", "term 1 5",
        "term 0 -10", "term 1 -10", "kin 1", "kin -1", "step 5", "step -1", "heap 5", "heap -1"};

    public static void main(String[] args) {
        nothingToUndo();
        sixAreKept();
        eachActGoesBack();
        eachMinuteGoesBack();
        stateAndBookGoBack();
        notUndoneYet();
        whatForgets();
        whatDoesNot();
        refusedDoesNot();
        toldStays();
        noImage();
        imageOfNobody();
        allThatIsAndWasTold();
        tapeAndFaultStay();
        nothingThen();
        moreThanOnce();
        takenAgain();
        end("the edges of what is kept");
    }

    /** Persons without nerve, of whom none stops; the second one has hiccups by the first one. */
    private static Trial lane() {
        return Trial.lane(0, 0, 0).fine(0, "stops 0;", 1);
    }

    private static void nothingToUndo() {
        sentence("UNDO: true; false if there is nothing.");
        new Trial().leaves("undo", 0);
        Trial x = lane();
        x.leaves("undo", 0);
        x.due("look 10", 0).due("act 0 0 1", 1).due("look 10", 1).due("undo", 1).due("look 10", 0);
        x.leaves("undo", 0);
        x.isAs("what was done and undone", lane());
        new Trial().due("minutes 1", 0).due("undo", 1).due("undo", 0).due("look 3", 0);
    }

    private static void sixAreKept() {
        sentence("6 are kept;");
        for (int n = 1; n <= 20; n++) {
            Trial x = lane();
            for (int i = 0; i < n; i++) {
                x.due("look 10", Math.min(6, i)).due("act 0 0 1", 1);
            }
            int kept = Math.min(6, n);
            x.due("look 10", kept);
            for (int i = 1; i <= kept; i++) {
                x.due("undo", 1).due("of 1 4", n - i).due("look 10", kept - i).due("look 4", n - i);
            }
            x.leaves("undo", 0);
        }
        for (int n = 1; n <= 9; n++) {
            new Trial().due("minutes " + n, 0).due("look 10", Math.min(6, n));
        }
        Trial x = new Trial();
        x.due("minutes 60", 0).due("look 10", 6);
        for (int i = 1; i <= 6; i++) {
            x.due("undo", 1).due("look 3", 60 - i).due("look 2", 60 - i);
        }
        x.leaves("undo", 0);
        x.due("look 3", 54);
    }

    /** A lane in which each act changes as much as it can. */
    private static Trial ready() {
        Trial x = Trial.lane(4, 8, 0, 2);
        x.fine(0, "stops 1 when nerve<6;stops 0;passes 7;", 3);
        x.fine(1, "at 1 person 0 names 2;at 2 person 3 names 2;", 2);
        x.fine(2, "at 1 fright 2;at 1 sugar 1;at 2 glass 2 0;at 2 breath 0 3;", 4);
        x.due("act 0 3 0", 1).due("act 0 2 0", 1).due("set 1 1 9", 1).due("act 3 1 0", 1).due("act 3 0 0", 1);
        return x.due("look 10", 2);
    }

    private static void eachActGoesBack() {
        sentence("UNDO: the latest MINUTE, NAMING, FRIGHT, GLASS, SAYING by hand not undone yet goes back (STATE, THE BOOK, too):");
        for (String call : new String[] {"act 0 0 1", "act 0 1 0", "act 0 0 3", "act 1 0 0", "act 1 1 0", "act 2 0 1", "act 2 1 0", "act 2 0 3", "act 3 0 0",
            "act 3 1 0", "minutes 1"}) {
            Trial x = ready();
            Trial as = ready();
            x.ask(call);
            x.due("look 10", 3).due("undo", 1);
            x.isAs(call + " and undo", as);
        }
        // 2 is found out and finds 0 out, and a fright: all three go back.
        Trial x = ready();
        x.due("act 3 0 0", 1).due("act 3 2 0", 1).due("act 1 1 0", 1).due("of 2 5", 1).due("of 0 5", 1).due("look 10", 5);
        x.due("undo", 1).due("undo", 1).due("undo", 1);
        x.isAs("three and three undos", ready());
    }

    private static void eachMinuteGoesBack() {
        sentence("UNDO: the latest MINUTE,");
        for (int n = 1; n <= 4; n++) {
            Trial x = ready();
            Trial as = ready();
            x.ask("minutes " + n);
            x.due("look 3", n).due("look 10", 2 + n);
            for (int i = n - 1; i >= 0; i--) {
                x.due("undo", 1).due("look 3", i);
            }
            x.isAs(n + " minutes and as many undos", as);
        }
        // Half of them back is as half of them done.
        Trial x = ready();
        x.ask("minutes 4");
        x.due("undo", 1).due("undo", 1);
        Trial as = ready();
        as.ask("minutes 2");
        x.isAs("two of four minutes", as);
    }

    private static void stateAndBookGoBack() {
        sentence("goes back (STATE, THE BOOK, too):");
        Trial x = Trial.lane(0, 0).fine(0, "stops 1;", 1);
        x.due("state 99", 0).due("set 1 0 9", 1);
        x.due("minutes 1", 0).due("look 5", 99 * 1664525 + 1013904223).due("look 4", 1).due("of 0 3", 2);
        x.due("undo", 1).due("look 5", 99).due("look 4", 0).due("book 0 0", -1).due("of 0 3", 0).due("look 3", 0).due("look 2", 0);
        // A line that went back leaves its place to another one.
        x.due("act 0 0 1", 1);
        x.line(0, 0, 0, 1, 20);
        x.due("undo", 1).due("act 1 0 0", 1);
        x.line(0, 0, 5, 0, 4);
        x.due("book 1 0", -1);
    }

    private static void notUndoneYet() {
        sentence("by hand not undone yet goes back");
        Trial x = lane();
        x.due("act 0 0 1", 1).due("act 0 0 2", 1).due("undo", 1).due("act 0 1 0", 1);
        x.due("undo", 1).due("of 0 4", 0).due("of 1 4", 1).due("of 2 4", 0).due("undo", 1).due("of 1 4", 0);
        x.leaves("undo", 0);
        for (int i = 0; i < 30; i++) {
            x.due("act 0 0 1", 1).due("act 0 0 1", 1).due("undo", 1).due("look 10", Math.min(5, i + 1));
            x.due("of 1 4", i + 1);
        }
    }

    private static void whatForgets() {
        sentence("whatever else is told but THE LAW, ROWS and what is told for thought");
        String[] calls = {"state 777", "state 0", "person 0", "set 0 0 4", "set 0 0 5", "set 1 0 0", "set 1 0 9", "image 0"};
        for (String call : calls) {
            Trial x = Trial.rich().due("look 10", 6);
            x.ask(call);
            x.due("look 10", 0);
            x.leaves("undo", 0);
        }
        for (int k = 1; k <= 2; k++) {
            for (String text : new String[] {"", k == 1 ? "at 0 person 0 names 1;" : "at 0 sugar 0;"}) {
                Trial x = Trial.rich();
                x.fine(k, text, text.isEmpty() ? 0 : 1).due("look 10", 0);
                x.leaves("undo", 0);
            }
        }
    }

    private static void whatDoesNot() {
        sentence("but THE LAW, ROWS and what is told for thought (BREATH, CALLS, GOSSIP, TERMS, TREE, STAIR, GAME)");
        for (String call : FOR_THOUGHT) {
            Trial x = Trial.rich();
            x.ask(call);
            x.due("look 10", 6).due("undo", 1).due("look 10", 5);
        }
        for (String text : new String[] {"", "hics 1;"}) {
            Trial.rich().fine(0, text, text.isEmpty() ? 0 : 1).due("look 10", 6).due("undo", 1);
        }
        for (String text : new String[] {"", "person 0 says 1;"}) {
            Trial.rich().fine(3, text, text.isEmpty() ? 0 : 1).due("look 10", 6).due("undo", 1);
        }
    }

    private static void refusedDoesNot() {
        sentence("(feed(), end(), what is refused, a text with a FAULT, the taking of THE IMAGE do not) forgets them.");
        String[] calls = {"feed 1 2 3 4 5", "end 0", "end 5", "end 99", "image 1", "text -1", "text 4", "person 10", "person -1", "set 0 0 10", "set 1 0 100",
            "set 2 0 0", "set 1 9 0", "act 0 0 0", "act 4 0 1", "act 1 9 0", "act 2 0 0", "act 3 9 0", "minutes 0", "minutes 61", "goes 5 0", "peace",
            "of 0 0", "back 0", "book 0 0", "look 0", "fault 0"};
        for (String call : calls) {
            Trial x = Trial.rich();
            x.ask(call);
            x.due("look 10", 6).due("undo", 1).due("look 10", 5);
        }
        for (int k = 0; k < 4; k++) {
            Trial x = Trial.rich();
            x.faulty(k, "?", 1, 0);
            x.due("look 10", 6).due("undo", 1).due("look 10", 5);
        }
        // None was taken, so that none can be gone back to.
        Trial x = lane().due("act 0 0 1", 1).due("image 0", 0).due("look 10", 1).due("undo", 1);
        x.isAs("refused, and undone", lane());
    }

    private static void toldStays() {
        sentence("whatever else is told but THE LAW, ROWS and what is told for thought (BREATH,");
        Trial x = lane();
        x.due("act 0 0 1", 1).fine(0, "hics 7;", 1).fine(3, "person 0 says 2;", 1);
        x.due("breath 5", 1).due("call 0 1 2", 1).due("way 0 1 2", 1).due("term 0 5", 1).due("term 1 5", 1).due("kin 0", 1).due("step 1", 1).due("heap 5", 1);
        x.due("undo", 1).due("of 1 4", 0);
        x.due("of 0 7", 7).due("of 0 20", 2).due("held 0", 5).due("calls 0", 2).due("gossip 0 1 0", 2).due("terms 0 0", 5).due("terms 1 0", 5);
        x.due("tree 0 0 0", 2).due("stair 1 1 0", 0).due("game", 4).due("look 6", 1).due("look 9", 1);
    }

    private static void noImage() {
        sentence("THE IMAGE is taken (true), or gone back to (false): true; false if there is none.");
        new Trial().leaves("image 0", 0);
        Trial x = ready();
        x.feed(0, "hics 1;");
        x.leaves("image 0", 0);
        x.due("look 10", 2);
        // The taking alone changes nothing.
        Trial.rich().due("image 1", 1).due("look 10", 6);
        Trial y = Trial.rich().due("image 1", 1);
        y.leaves("image 1", 1);
    }

    private static void imageOfNobody() {
        sentence("THE IMAGE: all that is and was told but the TAPE, fault() and what can be undone (nothing then), as it was when it was taken;");
        Trial x = new Trial().due("image 1", 1);
        changeAll(x, 0);
        x.due("set 1 0 99", 1).due("goes 1 2", 4).due("image 0", 1);
        for (int what = 0; what < 3; what++) {
            x.due("goes 1 " + what, 0);
        }
        x.due("look 0", 0).due("of 0 0", -2);
        x.isAs("back to nobody", new Trial().due("image 1", 1));
    }

    /** Each part that THE IMAGE keeps is told or done otherwise. */
    private static void changeAll(Trial x, int persons) {
        x.due("person 3", persons).due("person 3", persons + 1).due("set 0 0 8", 1).due("set 1 0 50", 1);
        x.ask("state 4242");
        x.fine(0, "hics 33;", 1).fine(1, "at 9 person 0 names 1;", 1).fine(2, "at 9 fright 0;at 9 fright 1;", 2).fine(3, "person 0 says 1;", 1);
        for (String call : FOR_THOUGHT) {
            x.ask(call);
        }
        for (String call : new String[] {"breath 7", "call 3 4 5", "way 2 3 4", "term 0 7", "term 1 7", "kin 2", "step 9", "heap 9"}) {
            x.due(call, 1);
        }
        x.due("act 0 0 1", 1).due("act 1 1 0", 1).due("act 3 1 0", 1);
        x.ask("minutes 20");
        x.due("act 0 0 1", 1).due("act 0 1 0", 1).due("act 2 1 0", 1);
    }

    private static void allThatIsAndWasTold() {
        sentence("THE IMAGE: all that is and was told but the TAPE,");
        Trial x = Trial.rich().due("image 1", 1);
        // One where nothing was gone back to, but with nothing to undo, too.
        Trial as = x.again().due("state 777", 777);
        changeAll(x, 5);
        x.due("image 0", 1);
        x.faulty(0, "hics", 1, 4);
        as.faulty(0, "hics", 1, 4);
        x.isAs("gone back", as);
        // And all of the full one.
        Trial y = Trial.full().due("image 1", 1);
        Trial asFull = y.again().due("state 0", 0);
        for (int i = 0; i < 6; i++) {
            y.due("undo", 1);
        }
        for (int i = 0; i < 40; i++) {
            y.due("act 0 1 0", 1);
        }
        for (String call : new String[] {"set 1 0 0", "set 0 13 0", "state 1", "breath -100", "call -1 0 0", "way -1 0 0", "term 0 -10",
            "term 1 -10", "kin -1", "step -1", "heap -1"}) {
            y.ask(call);
        }
        for (int k = 0; k < 4; k++) {
            y.fine(k, "", 0);
        }
        y.due("image 0", 1);
        // No such text, but the tape is empty then, as that of the other one.
        asFull.due("text 4", -1);
        y.isAs("gone back", asFull);
    }

    private static void tapeAndFaultStay() {
        sentence("but the TAPE, fault() and what can be undone (nothing then),");
        Trial x = lane();
        x.feed(0, "hics 1;");
        x.due("image 1", 1).due("end 7", 1).due("feed 0 0 0 0 0", 27).due("image 0", 1).due("end 28", 0).due("end 27", 1).due("end 3", 1);
        x.due("image 0", 1).due("end 4", 0).due("end 3", 1);
        x.faulty(0, "hics 1/0;", 2, 7);
        x.due("image 1", 1);
        x.faulty(0, "hics", 1, 4);
        x.due("image 0", 1).due("fault 0", 1).due("fault 1", 4);
        x.fine(0, "", 0);
        x.due("image 0", 1).due("fault 0", 0).due("fault 1", -1).due("look 6", 1);
    }

    private static void nothingThen() {
        sentence("what can be undone (nothing then)");
        Trial x = lane();
        x.due("act 0 0 1", 1).due("act 0 0 1", 1).due("look 10", 2).due("image 1", 1).due("look 10", 2);
        x.due("act 0 0 1", 1).due("look 10", 3).due("image 0", 1).due("look 10", 0).due("of 1 4", 2);
        x.leaves("undo", 0);
        x.due("act 0 0 1", 1).due("look 10", 1).due("undo", 1).due("of 1 4", 2).due("undo", 0);
        // What was done ahead of the image can be undone behind its taking, and comes again with it.
        Trial y = lane();
        y.due("act 0 0 1", 1).due("image 1", 1).due("undo", 1).due("of 1 4", 0).due("look 4", 0).due("act 0 1 0", 1).due("image 0", 1);
        y.due("of 1 4", 1).due("of 0 4", 0).due("look 4", 1);
        y.line(0, 0, 0, 1, 20);
    }

    private static void moreThanOnce() {
        sentence("gone back to it may be more than once.");
        Trial x = Trial.lane(0, 0).fine(0, "stops 0;hics 44;", 2);
        x.due("breath 1", 1).due("call 0 9 9", 1).due("way 0 1 9", 1).due("term 0 1", 1).due("term 1 1", 1).due("kin 0", 1).due("step 2", 1).due("heap 3", 1);
        x.due("act 0 0 1", 1).due("image 1", 1);
        Trial as = x.again().due("state 0", 0);
        for (int round = 1; round <= 3; round++) {
            changeAll(x, 2);
            x.due("image 0", 1).due("look 0", 2).due("look 4", 1).due("look 3", 0).due("look 10", 0);
            x.isAs("gone back to " + round + " times", as);
        }
    }

    private static void takenAgain() {
        sentence("as it was when it was taken;");
        Trial x = lane();
        x.due("act 0 0 1", 1).due("image 1", 1).due("act 0 0 1", 1).due("image 1", 1).due("act 0 0 1", 1).due("of 1 4", 3);
        x.due("image 0", 1).due("of 1 4", 2).due("act 0 0 1", 1).due("image 0", 1).due("of 1 4", 2);
        x.due("act 0 0 2", 1).due("image 1", 1).due("undo", 1).due("image 0", 1).due("of 1 4", 2).due("of 2 4", 1);
    }
}
