/** Promises 1 to 15 and 38 to 40: runs whose answers were worked out by hand from the document. */
public final class LaneTest extends Due {
    private static void faulty(HiccupLane x, int k, String text, int fault, int place) {
        due("text(" + k + ") " + text, tell(x, k, text), -1);
        due("fault(0) of " + text, x.fault(0), fault);
        due("fault(1) of " + text, x.fault(1), place);
    }

    private static void fine(HiccupLane x, int k, String text, int lines) {
        due("text(" + k + ") " + text, tell(x, k, text), lines);
        due("fault(0) of " + text, x.fault(0), 0);
        due("fault(1) of " + text, x.fault(1), -1);
    }

    private static HiccupLane lane(int... nerves) {
        HiccupLane x = new HiccupLane();
        for (int i = 0; i < nerves.length; i++) {
            due("person", x.person(nerves[i]), i);
        }
        return x;
    }

    private static void line(HiccupLane x, int i, int minute, int what, int who, int much) {
        due("book(" + i + ", 0)", x.book(i, 0), minute);
        due("book(" + i + ", 1)", x.book(i, 1), what);
        due("book(" + i + ", 2)", x.book(i, 2), who);
        due("book(" + i + ", 3)", x.book(i, 3), much);
    }

    public static void main(String[] args) {
        newObject();
        states();
        persons();
        sets();
        namings();
        frightsAndGlasses();
        sayings();
        minutesGoBy();
        minutesEdges();
        talkAndCures();
        tape();
        lawFaults();
        planFaults();
        rowFaults();
        lawValues();
        lawFacts();
        orders();
        bookIsFull();
        inThought();
        backs();
        undos();
        whatForgets();
        images();
        looks();
        end("the lane");
    }

    private static void newObject() {
        run = "newObject";
        HiccupLane x = new HiccupLane();
        for (int i = 0; i <= 10; i++) {
            due("look", x.look(i), 0);
        }
        due("fault(0)", x.fault(0), 0);
        due("fault(1)", x.fault(1), -1);
        due("fault(2)", x.fault(2), -1);
        due("fault(-1)", x.fault(-1), -1);
        due("undo", x.undo(), false);
        due("image", x.image(false), false);
        due("peace", x.peace(), 0);
        due("held", x.held(0), 0);
        due("calls", x.calls(0), 0);
        due("game", x.game(), -1);
        due("NONE", HiccupLane.NONE, -1);
    }

    private static void states() {
        run = "states";
        HiccupLane x = new HiccupLane();
        due("state", x.state(77), 0);
        due("state", x.state(Integer.MIN_VALUE), 77);
        due("look(5)", x.look(5), Integer.MIN_VALUE);
        due("state", x.state(-1), Integer.MIN_VALUE);
        due("state", x.state(0), -1);
    }

    private static void persons() {
        run = "persons";
        HiccupLane x = new HiccupLane();
        due("person(-1)", x.person(-1), -1);
        due("person(10)", x.person(10), -1);
        for (int i = 0; i < 14; i++) {
            due("person", x.person(i % 10), i);
        }
        due("the 15th", x.person(3), -1);
        due("look(0)", x.look(0), 14);
        due("nerve", x.of(13, 0), 3);
        due("by", x.of(13, 2), -1);
        for (int what : new int[] {1, 3, 4, 5, 6}) {
            due("of " + what, x.of(13, what), 0);
        }
        due("of", x.of(14, 0), -2);
        due("of", x.of(-1, 0), -2);
        due("of", x.of(0, 11), -2);
        due("of", x.of(0, 19), -2);
        due("of", x.of(0, 34), -2);
        due("of", x.of(0, -1), -2);
        due("of(0, 32)", x.of(0, 32), 13);
        due("of(0, 33)", x.of(0, 33), -1);
        due("of(5, 25)", x.of(5, 25), 6);
    }

    private static void sets() {
        run = "sets";
        HiccupLane x = lane(3, 4);
        due("set", x.set(0, 0, 9), true);
        due("nerve", x.of(0, 0), 9);
        due("set", x.set(0, 0, 0), true);
        due("set", x.set(0, 0, 10), false);
        due("set", x.set(0, 0, -1), false);
        due("set", x.set(1, 0, 100), false);
        due("set", x.set(1, 0, -1), false);
        due("set", x.set(1, 2, 5), false);
        due("set", x.set(1, -1, 5), false);
        due("set", x.set(2, 0, 5), false);
        due("set", x.set(-1, 0, 5), false);
        due("set", x.set(1, 1, 99), true);
        due("look(1)", x.look(1), 2);
        due("act", x.act(0, 0, 1), true);
        due("hiccups", x.of(1, 1), 99);
        due("set", x.set(1, 1, 4), true);
        due("by stays", x.of(1, 2), 0);
        due("set", x.set(1, 1, 0), true);
        due("by goes", x.of(1, 2), -1);
        due("look(1)", x.look(1), 0);
        // BY none: 1 says 0 in vain, and that stays behind set, till he has none.
        due("set", x.set(1, 1, 5), true);
        due("act", x.act(3, 1, 9), true);
        due("tried", x.of(1, 3), 1);
        due("set", x.set(1, 1, 6), true);
        due("tried stays", x.of(1, 3), 1);
        due("set", x.set(1, 1, 0), true);
        due("tried goes", x.of(1, 3), 0);
    }

    private static void namings() {
        run = "namings";
        HiccupLane x = lane(9, 0, 5);
        due("act", x.act(0, 1, 0), true);
        due("hiccups", x.of(0, 1), 11);
        due("by", x.of(0, 2), 1);
        due("named", x.of(0, 4), 1);
        line(x, 0, 0, 0, 0, 11);
        due("act", x.act(0, 1, 1), false);
        due("act", x.act(0, 1, 3), false);
        due("act", x.act(0, 3, 1), false);
        due("act", x.act(0, -1, 1), false);
        due("act", x.act(0, 1, -1), false);
        due("act", x.act(4, 0, 1), false);
        due("act", x.act(-1, 0, 1), false);
        due("look(4)", x.look(4), 1);
        // In vain first, so that the next naming empties TRIED.
        due("act", x.act(0, 2, 0), true);
        due("act", x.act(3, 0, 0), true);
        due("tried", x.of(0, 3), 2);
        due("act", x.act(0, 2, 0), true);
        due("tried", x.of(0, 3), 0);
        due("hiccups", x.of(0, 1), 33);
        for (int i = 0; i < 6; i++) {
            due("act", x.act(0, 1, 0), true);
        }
        due("hiccups", x.of(0, 1), 99);
        due("act", x.act(0, 1, 0), true);
        due("99 at most", x.of(0, 1), 99);
        due("named", x.of(0, 4), 10);
        // NAMED so already, near by BY as ahead.
        HiccupLane y = lane(0, 0, 0, 0);
        fine(y, 0, "hics 10*named+near;", 1);
        due("act", y.act(0, 3, 0), true);
        due("hiccups", y.of(0, 1), 10);
        due("act", y.act(0, 1, 0), true);
        due("hiccups", y.of(0, 1), 33);
        due("hics", y.of(0, 7), 21);
    }

    private static void frightsAndGlasses() {
        run = "frightsAndGlasses";
        HiccupLane x = lane(0, 0, 0);
        due("act", x.act(1, 0, 0), false);
        due("act", x.act(2, 0, 1), false);
        due("set", x.set(1, 0, 7), true);
        due("act", x.act(1, 0, -55), true);
        due("hiccups", x.of(0, 1), 3);
        due("frights", x.of(0, 6), 1);
        line(x, 0, 0, 5, 0, 3);
        due("act", x.act(2, 0, 0), false);
        due("act", x.act(2, 0, 3), false);
        due("act", x.act(2, 0, -1), false);
        due("act", x.act(2, 0, 2), true);
        due("hiccups", x.of(0, 1), 0);
        due("hiccups", x.of(2, 1), 3);
        due("by", x.of(2, 2), 0);
        line(x, 1, 0, 4, 0, 2);
        due("act", x.act(3, 2, 0), true);
        // 2 said 0, who is found out and has half of 3.
        due("found", x.of(0, 5), 1);
        due("hiccups", x.of(0, 1), 1);
        due("by", x.of(0, 2), 2);
        line(x, 2, 0, 3, 2, 0);
        due("act", x.act(3, 0, 0), true);
        due("tried", x.of(0, 3), 2);
        due("act", x.act(1, 0, 0), true);
        due("none by a fright", x.of(0, 1), 0);
        due("by", x.of(0, 2), -1);
        due("tried", x.of(0, 3), 0);
        due("set", x.set(1, 0, 60), true);
        due("set", x.set(1, 1, 50), true);
        due("act", x.act(3, 1, 0), true);
        due("tried", x.of(1, 3), 1);
        due("act", x.act(2, 0, 1), true);
        due("99 at most", x.of(1, 1), 99);
        due("tried is empty", x.of(1, 3), 0);
    }

    private static void sayings() {
        run = "sayings";
        HiccupLane x = lane(0, 0, 0, 0);
        due("act", x.act(3, 0, 0), false);
        due("set", x.set(1, 2, 2), true);
        due("whom", x.of(2, 10), 0);
        due("act", x.act(3, 2, 0), true);
        line(x, 0, 0, 2, 2, 0);
        due("whom", x.of(2, 10), 1);
        due("act", x.act(3, 2, 0), true);
        due("act", x.act(3, 2, 0), true);
        due("tried", x.of(2, 3), 11);
        due("no name left", x.of(2, 10), -1);
        due("act", x.act(3, 2, 0), true);
        due("one less", x.of(2, 1), 1);
        line(x, 3, 0, 6, 2, 1);
        due("act", x.act(3, 2, 0), true);
        due("none", x.of(2, 1), 0);
        due("tried", x.of(2, 3), 0);
        line(x, 4, 0, 6, 2, 0);
        due("act", x.act(3, 2, 0), false);
        due("calm is for minutes", x.look(2), 0);
        // passes 0: the found one's BY and TRIED stay.
        fine(x, 0, "passes 0;", 1);
        due("set", x.set(1, 1, 9), true);
        due("act", x.act(0, 3, 1), true);
        due("act", x.act(3, 1, 0), true);
        due("tried", x.of(1, 3), 1);
        due("act", x.act(0, 1, 0), true);
        due("hiccups", x.of(0, 1), 20);
        due("act", x.act(3, 0, 0), true);
        due("found", x.of(1, 5), 1);
        due("hiccups stay", x.of(1, 1), 29);
        due("by stays", x.of(1, 2), 3);
        due("tried stays", x.of(1, 3), 1);
        due("said it", x.of(0, 1), 0);
        // passes above 0: they go.
        fine(x, 0, "passes 90 when near=1; passes 5;", 2);
        due("act", x.act(0, 1, 0), true);
        due("act", x.act(3, 0, 0), true);
        due("99 at most", x.of(1, 1), 99);
        due("by", x.of(1, 2), 0);
        due("tried", x.of(1, 3), 0);
        // One alone has no name.
        HiccupLane y = lane(0);
        due("set", y.set(1, 0, 3), true);
        due("no name", y.of(0, 10), -1);
        due("no name", y.of(0, 20), -1);
        due("act", y.act(3, 0, 0), true);
        due("one less", y.of(0, 1), 2);
    }

    private static void minutesGoBy() {
        run = "minutesGoBy";
        HiccupLane x = lane(0, 0, 0);
        fine(x, 0, "stops 0;", 1);
        due("act", x.act(0, 2, 0), true);
        // 0 says 1 in vain; then 2, who has 10 of it just ahead of his own turn: he says 0 at once.
        due("minutes", x.minutes(1), 0);
        line(x, 1, 0, 2, 0, 1);
        due("minutes", x.minutes(1), 2);
        line(x, 2, 1, 3, 0, 2);
        line(x, 3, 1, 3, 2, 0);
        due("hiccups", x.of(0, 1), 5);
        due("by", x.of(0, 2), 2);
        due("found", x.of(0, 5), 1);
        due("found", x.of(2, 5), 1);
        due("no draw", x.look(5), 0);
        due("minutes", x.minutes(2), 2);
        // 0 says 1, then 2 (2 of 5), who says 0 (1 of 2).
        due("hiccups", x.of(0, 1), 1);
        due("hiccups", x.of(2, 1), 0);
        due("minute", x.look(3), 4);
        due("calm", x.look(2), 0);
        // 0 says 1; then 2, and half of 1 is none: all is calm behind it.
        due("minutes", x.minutes(2), 1);
        due("calm", x.look(2), 1);
        due("who have", x.look(1), 0);
        due("found", x.of(2, 5), 3);
        // The first draw is 563.
        HiccupLane y = lane(0, 0);
        fine(y, 0, "stops 563;", 1);
        due("set", y.set(1, 1, 8), true);
        due("minutes", y.minutes(1), 0);
        due("not below", y.of(1, 1), 8);
        due("state", y.look(5), 1013904223);
        due("state", y.state(0), 1013904223);
        fine(y, 0, "stops 564;", 1);
        due("minutes", y.minutes(1), 0);
        due("below", y.of(1, 1), 0);
        due("tried", y.of(1, 3), 0);
        line(y, 1, 1, 1, 1, 8);
        // Draws are without sign: of a negative state too.
        due("state", y.state(-1), 1013904223);
        due("set", y.set(1, 1, 8), true);
        fine(y, 0, "stops 1;", 1);
        due("minutes", y.minutes(1), 0);
        due("state", y.look(5), 1012239698);
        due("set", y.set(1, 1, 8), true);
        due("minutes", y.minutes(1), 0);
        due("state", y.look(5), 1012239698 * 1664525 + 1013904223);
    }

    private static void minutesEdges() {
        run = "minutesEdges";
        HiccupLane x = lane(0);
        due("minutes", x.minutes(0), -1);
        due("minutes", x.minutes(-1), -1);
        due("minutes", x.minutes(61), -1);
        for (int i = 0; i < 166; i++) {
            due("minutes", x.minutes(60), 0);
        }
        due("minute", x.look(3), 9960);
        due("minutes", x.minutes(40), -1);
        due("minute", x.look(3), 9960);
        due("undo", x.look(10), 6);
        due("minutes", x.minutes(39), 0);
        due("minute", x.look(3), 9999);
        due("calm", x.look(2), 9999);
        due("minutes", x.minutes(1), -1);
        due("goes on in thought", x.goes(3, 3), 10002);
    }

    private static void talkAndCures() {
        run = "talkAndCures";
        HiccupLane x = lane(8, 0, 0);
        fine(x, 0, "stops 0;", 1);
        fine(x, 1, "at 1 person 1 names 0; at 0 person 2 names 1; at 1 person 2 names 0;", 3);
        fine(x, 2, "at 0 breath 1 99; at 0 fright 2; at 1 sugar 0; at 1 sugar 0; at 1 fright 0; at 1 glass 2 1; at 1 breath 0 2;", 7);
        due("minutes", x.minutes(1), 0);
        line(x, 0, 0, 0, 1, 20);
        line(x, 1, 0, 5, 2, 0);
        due("none by breath", x.of(1, 1), 0);
        due("by", x.of(1, 2), -1);
        due("lines", x.look(4), 2);
        due("frights", x.of(2, 6), 1);
        due("calm", x.look(2), 1);
        due("minutes", x.minutes(1), 0);
        line(x, 2, 1, 0, 0, 12);
        line(x, 3, 1, 0, 0, 24);
        line(x, 4, 1, 5, 0, 12);
        line(x, 5, 1, 2, 0, 1);
        due("nothing by the glass of one without", x.of(1, 2), -1);
        due("lines", x.look(4), 6);
        due("nerve", x.of(0, 0), 9);
        due("hiccups", x.of(0, 1), 10);
        due("by", x.of(0, 2), 2);
        due("named", x.of(0, 4), 2);
        // Glass by plan.
        HiccupLane y = lane(0, 0, 0);
        fine(y, 0, "stops 0; hics 70;", 2);
        fine(y, 1, "at 0 person 1 names 0; at 0 person 0 names 2;", 2);
        fine(y, 2, "at 0 glass 0 2;", 1);
        due("minutes", y.minutes(1), 1);
        line(y, 2, 0, 4, 0, 2);
        // 2 has 99 by 0 and says 0.
        line(y, 3, 0, 3, 2, 0);
        due("hiccups", y.of(0, 1), 49);
        due("by", y.of(0, 2), 2);
        due("hiccups", y.of(2, 1), 0);
    }

    private static void tape() {
        run = "tape";
        HiccupLane x = lane(0, 0);
        for (int i = 1; i <= 20; i++) {
            due("feed", x.feed(0x20202020, 0x20202020, 0x20202020, 0x20202020, 0x20202020), 20 * i);
        }
        due("feed", x.feed(1, 2, 3, 4, 5), -1);
        due("end", x.end(401), false);
        due("end", x.end(-1), false);
        due("end", x.end(381), true);
        due("feed", x.feed(1, 2, 3, 4, 5), -1);
        due("end", x.end(382), false);
        due("end", x.end(380), true);
        due("feed", x.feed(0x20202020, 0x20202020, 0x20202020, 0x20202020, 0x20202024), 400);
        due("text", x.text(0), -1);
        due("fault", x.fault(0), 1);
        due("place", x.fault(1), 399);
        due("the tape is empty", x.end(1), false);
        due("end", x.end(0), true);
        due("feed", x.feed(0x68696373, 0x20313233, 0x343b0a20, 0x20202020, 0x20202020), 20);
        due("no such text", x.text(4), -1);
        due("fault", x.fault(0), 0);
        due("place", x.fault(1), -1);
        due("the tape is empty", x.end(1), false);
        due("no such text", x.text(-1), -1);
        due("feed", x.feed(0x68696373, 0x20313233, 0x343b0a20, 0x20202020, 0x20202020), 20);
        due("text", x.text(0), 1);
        due("hics", x.of(0, 7), 99);
        // Signs above 127 are bytes as well.
        faulty(x, 0, "hics 1" + (char) 233 + ";", 1, 6);
        faulty(x, 0, "hics 1;" + (char) 0, 1, 7);
        faulty(x, 0, "hics 1;\t", 1, 7);
        due("the text stays", x.look(6), 1);
        due("hics", x.of(0, 7), 99);
        fine(x, 0, "", 0);
        due("lines", x.look(6), 0);
        due("hics", x.of(0, 7), 20);
        fine(x, 0, " \n  ", 0);
    }

    private static void lawFaults() {
        run = "lawFaults";
        HiccupLane x = lane(0, 0);
        faulty(x, 0, "hics", 1, 4);
        faulty(x, 0, "hics  ", 1, 6);
        faulty(x, 0, "hics 1", 1, 6);
        faulty(x, 0, "hics 1 \n ", 1, 9);
        faulty(x, 0, ";", 1, 0);
        faulty(x, 0, " 5;", 1, 1);
        faulty(x, 0, "Hics 1;", 1, 0);
        faulty(x, 0, "hicss 1;", 1, 0);
        faulty(x, 0, "hic 1;", 1, 0);
        faulty(x, 0, "hicsstops 1;", 1, 0);
        for (char letter : "azAZ".toCharArray()) {
            faulty(x, 0, "hics" + letter + " 1;", 1, 0);
            faulty(x, 0, letter + "hics 1;", 1, 0);
        }
        for (char next : "@[`{".toCharArray()) {
            faulty(x, 0, "hics" + next + " 1;", 1, 4);
        }
        for (char next : "/:".toCharArray()) {
            faulty(x, 0, "hics 1" + next + ";", 1, next == '/' ? 7 : 6);
            faulty(x, 0, "hics " + next + "1;", 1, 5);
        }
        fine(x, 0, "hics 0990+9009;", 1);
        faulty(x, 0, "hics 1 2;", 1, 7);
        faulty(x, 0, "hics -1;", 1, 5);
        faulty(x, 0, "hics (1);", 1, 5);
        faulty(x, 0, "hics 1+;", 1, 7);
        faulty(x, 0, "hics 1/nerve;", 1, 7);
        faulty(x, 0, "hics 1/00;", 2, 7);
        faulty(x, 0, "hics 1/0000 when;", 2, 7);
        faulty(x, 0, "hics 1/00000;", 1, 7);
        faulty(x, 0, "hics 1 when;", 1, 11);
        faulty(x, 0, "hics 1 when 1;", 1, 13);
        faulty(x, 0, "hics 1 when 1<2<3;", 1, 15);
        faulty(x, 0, "hics 1 when (1)=1;", 1, 14);
        faulty(x, 0, "hics 1 when (1=1;", 1, 16);
        faulty(x, 0, "hics 1 when 1=1);", 1, 15);
        faulty(x, 0, "hics 1 when 1=1 and;", 1, 19);
        faulty(x, 0, "hics 1 when 1=1 or or;", 1, 19);
        faulty(x, 0, "hics 1 when 1=1 not 1=1;", 1, 16);
        faulty(x, 0, "hics 1 when 1 > = 1;", 1, 16);
        faulty(x, 0, "hics at;", 1, 5);
        faulty(x, 0, "hics 1 when says=1;", 1, 12);
        faulty(x, 0, "hics 1; at 0;", 1, 8);
        faulty(x, 0, "hics 1;".repeat(16) + "hics", 3, 112);
        faulty(x, 0, "hics 1;".repeat(16) + "nerve", 1, 112);
        faulty(x, 0, "hics 1;".repeat(16) + ";", 1, 112);
        fine(x, 0, "hics 1;".repeat(16), 16);
        due("lines", x.look(6), 16);
        fine(x, 0, "hics 1 when " + "(".repeat(8) + "1=1" + ")".repeat(8) + ";", 1);
        faulty(x, 0, "hics 1 when " + "(".repeat(9) + "1=1" + ")".repeat(9) + ";", 3, 20);
        faulty(x, 0, "hics 1 when " + "(not ".repeat(4) + "(1=1" + ")".repeat(5) + ";", 3, 32);
        faulty(x, 0, "hics 1 when " + "(not ".repeat(4) + "not 1=1" + ")".repeat(4) + ";", 3, 32);
        fine(x, 0, "hics 1 when " + "(not ".repeat(4) + "1=1" + ")".repeat(4) + ";", 1);
        // What is closed is not open.
        fine(x, 0, "hics 1 when " + "not 1=1 and ".repeat(10) + "not ".repeat(8) + "1=1;", 1);
        fine(x, 0, "hics 1 when " + "(1=1) or ".repeat(10) + "not(1=1);", 1);
        faulty(x, 0, "hics 1 when not not 1=1 and " + "not ".repeat(8) + "(1=1);", 3, 60);
        fine(x, 0, "hics1when1=1and1=1;stops2;\npasses\n3;", 3);
    }

    private static void planFaults() {
        run = "planFaults";
        HiccupLane x = lane(0, 0, 0);
        faulty(x, 1, "at", 1, 2);
        faulty(x, 1, "at person 0 names 1;", 1, 3);
        faulty(x, 1, "at 12345 person 0 names 1;", 1, 3);
        faulty(x, 1, "at 1000 person 0 names 1;", 2, 3);
        fine(x, 1, "at 999 person 0 names 1;", 1);
        faulty(x, 1, "at 0 fright 0;", 1, 5);
        faulty(x, 1, "at 0 person 3 names 1;", 2, 12);
        faulty(x, 1, "at 0 person names 1;", 1, 12);
        faulty(x, 1, "at 0 person 0 says 1;", 1, 14);
        faulty(x, 1, "at 0 person 0 names;", 1, 19);
        faulty(x, 1, "at 0 person 1 names 1;", 2, 20);
        faulty(x, 1, "at 0 person 1 names 01;", 2, 20);
        faulty(x, 1, "at 0 person 1 names 3;", 2, 20);
        faulty(x, 1, "at 0 person 1 names 2 0;", 1, 22);
        faulty(x, 1, "at 0 person 1 names 2", 1, 21);
        fine(x, 1, "at0person0names1;".repeat(16), 16);
        faulty(x, 1, "at0person0names1;".repeat(16) + "at 1000", 3, 272);
        faulty(x, 1, "at0person0names1;".repeat(16) + "person", 1, 272);
        due("the text stays", x.look(7), 16);
        faulty(x, 2, "at 0 person 0 names 1;", 1, 5);
        faulty(x, 2, "at 0 names 0;", 1, 5);
        faulty(x, 2, "at 0 says 0;", 1, 5);
        faulty(x, 2, "at 0 sugar;", 1, 10);
        faulty(x, 2, "at 0 sugar 3;", 2, 11);
        faulty(x, 2, "at 0 fright 0 1;", 1, 14);
        faulty(x, 2, "at 0 breath 0;", 1, 13);
        faulty(x, 2, "at 0 breath 3 0;", 2, 12);
        faulty(x, 2, "at 0 breath 0 0;", 2, 14);
        faulty(x, 2, "at 0 breath 0 100;", 2, 14);
        fine(x, 2, "at 0 breath 0 99; at 999 breath 1 1; at 5 glass 0 1; at 7 sugar 2;", 4);
        faulty(x, 2, "at 1000 breath 0 1;", 2, 3);
        faulty(x, 2, "at 0 glass 0;", 1, 12);
        faulty(x, 2, "at 0 glass 0 0;", 2, 13);
        faulty(x, 2, "at 0 glass 0 3;", 2, 13);
        faulty(x, 2, "at 0 glass 3 3;", 2, 11);
        fine(x, 2, "at0sugar0;".repeat(16), 16);
        faulty(x, 2, "at0sugar0;".repeat(17), 3, 160);
        due("the text stays", x.look(8), 16);
        HiccupLane none = new HiccupLane();
        faulty(none, 1, "at 0 person 0 names 1;", 2, 12);
        fine(none, 2, "", 0);
    }

    private static void rowFaults() {
        run = "rowFaults";
        HiccupLane x = lane(0, 0, 0);
        faulty(x, 3, "person", 1, 6);
        faulty(x, 3, "at 0;", 1, 0);
        faulty(x, 3, "person 0 names 1;", 1, 9);
        faulty(x, 3, "person 3 says 1;", 2, 7);
        faulty(x, 3, "person 0 says;", 1, 13);
        faulty(x, 3, "person 0 says says;", 1, 14);
        faulty(x, 3, "person 0 says 1 0;", 2, 16);
        faulty(x, 3, "person 0 says 1 3;", 2, 16);
        faulty(x, 3, "person 0 says 1 2", 1, 17);
        faulty(x, 3, "person 0 says 1 +;", 1, 16);
        fine(x, 3, "person 0 says 1 2 1 2 1 2;", 1);
        faulty(x, 3, "person 0 says 1 2 1 2 1 2 1;", 3, 26);
        faulty(x, 3, "person 0 says 1 2 1 2 1 2 0;", 2, 26);
        faulty(x, 3, "person 0 says 1 2 1 2 1 2 9;", 2, 26);
        faulty(x, 3, "person 0 says 1 2 1 2 1 2 11111;", 1, 26);
        fine(x, 3, "person 0 says 1;".repeat(16), 16);
        faulty(x, 3, "person 0 says 1;".repeat(17), 3, 256);
        due("the text stays", x.look(9), 16);
    }

    private static int hics(HiccupLane x, String law) {
        due("law " + law, tell(x, 0, law) > 0, true);
        return x.of(0, 7);
    }

    private static void lawValues() {
        run = "lawValues";
        HiccupLane x = lane(4, 0);
        due("default", x.of(0, 7), 16);
        due("default", x.of(0, 8), 130);
        due("default", x.of(0, 9), 0);
        due("set", x.set(1, 0, 99), true);
        due("default", x.of(0, 9), 49);
        due("sum", hics(x, "hics 1+2*3-4;"), 3);
        due("left to right", hics(x, "hics 50-20-10;"), 20);
        due("left to right", hics(x, "hics 7/2*2;"), 6);
        due("left to right", hics(x, "hics 2*7/4+1;"), 4);
        due("towards 0", hics(x, "hics 10+0*1-7/2;"), 7);
        due("towards 0", hics(x, "hics 20 when 0-1*7=0-7; hics 3;"), 20);
        due("1 at least", hics(x, "hics 0;"), 1);
        due("1 at least", hics(x, "hics 0-500;"), 1);
        due("99 at most", hics(x, "hics 100;"), 99);
        due("wraps", hics(x, "hics 9999*9999*9999;"), 1);
        due("wraps", hics(x, "hics 8192*8192*32;"), 1);
        due("wraps", hics(x, "hics 8192*8192*64+7;"), 7);
        due("first that is so", hics(x, "hics 5 when nerve>4;hics 6 when nerve=4;hics 7;"), 6);
        due("none is so", hics(x, "hics 5 when nerve>4;"), 16);
        due("other words", hics(x, "stops 5;passes 6;"), 16);
        due("stops", x.of(0, 8), 5);
        due("passes", x.of(0, 9), 6);
        due("and before or", hics(x, "hics 2 when 1=1 or 1=1 and 1=2;hics 3;"), 2);
        due("and before or", hics(x, "hics 2 when 1=2 and 1=2 or 1=1;hics 3;"), 2);
        due("brackets", hics(x, "hics 2 when (1=1 or 1=1) and 1=2;hics 3;"), 3);
        due("not is near", hics(x, "hics 2 when not 1=2 and 1=2;hics 3;"), 3);
        due("not of both", hics(x, "hics 2 when not (1=2 and 1=1);hics 3;"), 2);
        due("not not", hics(x, "hics 2 when not not 1<1;hics 3;"), 3);
        due("less", hics(x, "hics 2 when 1<2;hics 3;"), 2);
        due("more", hics(x, "hics 2 when 1>2;hics 3;"), 3);
        due("signed", hics(x, "hics 2 when 0-1<0;hics 3;"), 2);
        due("towards 0", hics(x, "hics 2 when (0-0*1=0) and 0-7/2=0-3;hics 3;"), 2);
        due("deep", hics(x, "hics 2 when (1=2 or (1=2 or (1=2 or (1=2 or (1=2 or (1=2 or (1=2 or (1=2 or 1=1 and 2=1+1))))))));hics 3;"), 2);
        fine(x, 0, "stops 1001;passes 100;", 2);
        due("stops", x.of(0, 8), 1000);
        due("passes", x.of(0, 9), 99);
        fine(x, 0, "stops 0-1;passes 0-1;", 2);
        due("stops", x.of(0, 8), 0);
        due("passes", x.of(0, 9), 0);
    }

    private static void lawFacts() {
        run = "lawFacts";
        HiccupLane x = lane(4, 0, 7, 0, 0);
        fine(x, 3, "person 2 says 3;", 1);
        fine(x, 0, "stops 0;", 1);
        due("act", x.act(0, 4, 2), true);
        due("minutes", x.minutes(1), 0);
        due("act", x.act(0, 0, 2), true);
        due("act", x.act(1, 2, 0), true);
        due("act", x.act(3, 2, 0), true);
        due("strong", hics(x, "hics 1;stops strong;"), 1);
        due("strong", x.of(2, 8), 13);
        for (String fact : new String[] {"nerve 7", "strong 13", "tried 1", "named 2", "found 0", "frights 1", "near 2", "minute 1"}) {
            String[] parts = fact.split(" ");
            fine(x, 0, "stops 100+" + parts[0] + ";", 1);
            due(fact, x.of(2, 8), 100 + Integer.parseInt(parts[1]));
        }
        fine(x, 0, "stops found;passes near;", 2);
        due("near of BY none", x.of(1, 9), 0);
        due("act", x.act(3, 2, 0), true);
        due("found", x.of(0, 8), 1);
    }

    private static void orders() {
        run = "orders";
        HiccupLane x = lane(0, 0, 0, 0, 0);
        fine(x, 3, "person 1 says 0; person 2 says 4 3; person 1 says 4 0 4 2;", 3);
        int[][] want = {{1, 2, 3, 4, -1}, {4, 0, 2, 3, -1}, {4, 3, 0, 1, -1}, {0, 1, 2, 4, -1}};
        for (int p = 0; p < want.length; p++) {
            for (int k = 0; k < 5; k++) {
                due("of(" + p + ", " + (20 + k) + ")", x.of(p, 20 + k), want[p][k]);
            }
        }
        due("set", x.set(1, 1, 5), true);
        due("act", x.act(3, 1, 0), true);
        due("tried", x.of(1, 3), 16);
        due("tried or not", x.of(1, 20), 4);
        due("whom", x.of(1, 10), 0);
        due("person", x.person(0), 5);
        due("a new one is last", x.of(1, 24), 5);
        fine(x, 3, "", 0);
        due("by number", x.of(1, 20), 0);
        due("tried stays", x.of(1, 10), 0);
    }

    private static void bookIsFull() {
        run = "bookIsFull";
        HiccupLane x = lane(0, 0);
        for (int i = 0; i < 150; i++) {
            due("act", x.act(0, i % 2, 1 - i % 2), true);
        }
        due("lines", x.look(4), 150);
        due("act", x.act(1, 0, 1), true);
        due("lines", x.look(4), 150);
        line(x, 149, 0, 0, 0, 99);
        due("behind", x.book(150, 0), -1);
        due("ahead", x.book(-1, 0), -1);
        due("what", x.book(0, 4), -1);
        due("what", x.book(0, -1), -1);
        due("undo", x.undo(), true);
        due("lines", x.look(4), 150);
        due("undo", x.undo(), true);
        due("lines", x.look(4), 149);
        due("behind", x.book(149, 1), -1);
        due("act", x.act(1, 0, 1), true);
        line(x, 149, 0, 5, 0, 49);
    }

    private static void inThought() {
        run = "inThought";
        HiccupLane x = lane(0, 0, 0);
        fine(x, 0, "stops 500 when minute=2;stops 499;", 2);
        fine(x, 1, "at 0 person 1 names 0;", 1);
        due("peace now", x.peace(), 0);
        // Minute 0: 0 (20 by 1) says 1, who has 10 by 0, and says 0, who has 5 by 1.
        due("hiccups", x.goes(1, 0), 5);
        due("found", x.goes(1, 1), 2);
        due("named", x.goes(1, 2), 1);
        due("calm", x.goes(1, 3), 0);
        due("hiccups", x.goes(2, 0), 1);
        due("hiccups", x.goes(3, 0), 0);
        due("calm", x.goes(3, 3), 1);
        due("calm", x.goes(60, 3), 58);
        due("goes", x.goes(0, 0), -1);
        due("goes", x.goes(61, 0), -1);
        due("goes", x.goes(1, 4), -1);
        due("goes", x.goes(1, -1), -1);
        due("nothing stays", x.look(3) + x.look(4) + x.look(5) + x.look(1) + x.look(2) + x.look(10), 0);
        due("act", x.act(0, 2, 1), true);
        due("peace", x.peace(), 3);
        due("lines", x.look(4), 1);
        fine(x, 0, "stops 499;passes strong;", 2);
        due("never", x.peace(), -1);
        // 60 is still within: BY none, so he tries 1, then counts down.
        HiccupLane y = lane(0, 0);
        fine(y, 0, "stops 0;", 1);
        due("set", y.set(1, 0, 59), true);
        due("peace", y.peace(), 60);
        due("set", y.set(1, 0, 60), true);
        due("peace", y.peace(), -1);
        due("goes", y.goes(60, 0), 1);
    }

    private static void backs() {
        run = "backs";
        HiccupLane x = lane(0, 0, 0, 0);
        due("back", x.back(0), 0);
        due("back", x.back(4), -1);
        due("back", x.back(-1), -1);
        due("act", x.act(0, 1, 0), true);
        due("act", x.act(0, 2, 1), true);
        due("act", x.act(0, 3, 2), true);
        due("back", x.back(0), 3);
        due("back", x.back(3), 0);
        due("act", x.act(0, 1, 3), true);
        due("back into a ring", x.back(0), 4);
        due("back in the ring", x.back(1), 3);
        HiccupLane y = lane(0, 0, 0, 0, 0, 0, 0, 0, 0, 0, 0, 0, 0, 0);
        for (int i = 0; i < 14; i++) {
            due("act", y.act(0, (i + 1) % 14, i), true);
        }
        due("all round", y.back(5), 14);
    }

    private static void undos() {
        run = "undos";
        HiccupLane x = lane(0, 0, 0);
        fine(x, 0, "stops 1;", 1);
        due("act", x.act(0, 1, 0), true);
        due("undo", x.look(10), 1);
        due("act", x.act(1, 0, 0), true);
        due("act", x.act(2, 0, 2), true);
        due("act", x.act(3, 2, 0), true);
        // 0 (5 by 2) says 1 in vain; then 2 (2 of 5), who says 0 at once.
        due("minutes", x.minutes(2), 2);
        due("undo", x.look(10), 6);
        int calm = x.look(2);
        due("act", x.act(0, 0, 1), true);
        due("six are kept", x.look(10), 6);
        due("undo", x.undo(), true);
        due("calm", x.look(2), calm);
        due("undo", x.undo(), true);
        due("minute", x.look(3), 1);
        due("undo", x.undo(), true);
        due("minute", x.look(3), 0);
        due("state", x.look(5), 0);
        due("lines", x.look(4), 4);
        due("found", x.of(0, 5), 1);
        due("undo", x.undo(), true);
        due("found", x.of(0, 5), 0);
        due("by", x.of(2, 2), 0);
        due("hiccups", x.of(2, 1), 10);
        due("undo", x.undo(), true);
        due("hiccups", x.of(0, 1), 10);
        due("by", x.of(0, 2), 1);
        due("undo", x.undo(), true);
        due("hiccups", x.of(0, 1), 20);
        due("frights", x.of(0, 6), 0);
        due("lines", x.look(4), 1);
        due("nothing", x.undo(), false);
        due("nothing", x.look(10), 0);
        due("named", x.of(0, 4), 1);
        // 20, 10, 5, 2, 1 goes to and fro between 0 and 1.
        due("minutes", x.minutes(60), 5);
        due("six", x.look(10), 6);
    }

    private static void whatForgets() {
        run = "whatForgets";
        for (int how = 0; how <= 24; how++) {
            HiccupLane x = lane(0, 0);
            run = "whatForgets " + how;
            due("act", x.act(0, 0, 1), true);
            boolean forgets = false;
            switch (how) {
                case 0: x.state(0); forgets = true; break;
                case 1: x.person(3); forgets = true; break;
                case 2: x.set(0, 0, 3); forgets = true; break;
                case 3: x.set(1, 0, 3); forgets = true; break;
                case 4: fine(x, 1, "", 0); forgets = true; break;
                case 5: fine(x, 2, "at 0 sugar 0;", 1); forgets = true; break;
                case 6: x.image(true); x.image(false); forgets = true; break;
                case 7: fine(x, 0, "hics 1;", 1); break;
                case 8: fine(x, 3, "person 0 says 1;", 1); break;
                case 9: faulty(x, 1, "at", 1, 2); break;
                case 10: faulty(x, 2, "at", 1, 2); break;
                case 11: x.text(4); x.text(-1); break;
                case 12: x.feed(1, 2, 3, 4, 5); x.end(3); break;
                case 13: x.image(true); break;
                case 14: x.image(false); break;
                case 15: x.person(10); x.set(0, 0, 10); x.set(1, 5, 1); break;
                case 16: x.breath(1); x.breath(-100); break;
                case 17: x.call(0, 1, 1); x.call(-1, 0, 0); break;
                case 18: x.way(0, 1, 1); x.way(-1, 0, 0); break;
                case 19: x.term(0, 1); x.term(1, -10); break;
                case 20: x.kin(1); x.kin(-1); break;
                case 21: x.step(1); x.step(-1); break;
                case 22: x.heap(1); x.heap(-1); break;
                case 23: x.goes(5, 0); x.peace(); x.of(0, 7); x.look(3); break;
                default: x.minutes(0); x.act(0, 0, 0); x.act(9, 0, 1); break;
            }
            due("what can be undone", x.look(10), forgets ? 0 : 1);
            due("undo", x.undo(), !forgets);
            due("named", x.of(1, 4), forgets ? 1 : 0);
        }
        // A law told behind what is undone stays told.
        HiccupLane x = lane(0, 0);
        due("act", x.act(0, 0, 1), true);
        fine(x, 0, "hics 3;", 1);
        due("undo", x.undo(), true);
        due("hics", x.of(1, 7), 3);
    }

    private static void images() {
        run = "images";
        HiccupLane x = lane(1, 2);
        fine(x, 0, "hics 7;stops 0;", 2);
        fine(x, 1, "at 5 person 0 names 1;", 1);
        fine(x, 2, "at 5 fright 1;", 1);
        fine(x, 3, "person 0 says 1;", 1);
        x.state(42);
        due("act", x.act(0, 0, 1), true);
        x.breath(5);
        x.call(0, 5, 5);
        x.way(0, 1, 5);
        x.term(0, 5);
        x.term(1, 6);
        x.kin(0);
        x.step(1);
        x.heap(2);
        due("image", x.image(true), true);
        due("what can be undone stays", x.look(10), 1);
        due("undo", x.undo(), true);
        due("act", x.act(0, 1, 0), true);
        for (int round = 0; round < 2; round++) {
            due("person", x.person(3), 2);
            fine(x, 0, "", 0);
            fine(x, 1, "", 0);
            fine(x, 2, "", 0);
            fine(x, 3, "", 0);
            x.state(7);
            x.breath(-100);
            x.call(-1, 0, 0);
            x.way(-1, 0, 0);
            x.term(0, -10);
            x.term(1, -10);
            x.kin(-1);
            x.step(-1);
            x.heap(-1);
            x.breath(9);
            x.call(1, 9, 9);
            x.way(1, 2, 9);
            x.term(0, 9);
            x.term(1, 9);
            x.kin(2);
            x.step(2);
            x.heap(9);
            x.set(0, 0, 9);
            due("minutes", x.minutes(3) >= 0, true);
            faulty(x, 0, "hics", 1, 4);
            due("feed", x.feed(0, 0, 0, 0, 0), 20);
            due("image", x.image(false), true);
            due("the tape stays", x.end(20), true);
            due("end", x.end(0), true);
            due("fault stays", x.fault(0), 1);
            due("fault stays", x.fault(1), 4);
            int[] want = {2, 2, 0, 0, 1, 42, 2, 1, 1, 1, 0};
            for (int i = 0; i < want.length; i++) {
                due("look(" + i + ")", x.look(i), want[i]);
            }
            due("nerve", x.of(0, 0), 1);
            due("hiccups", x.of(1, 1), 7);
            due("by", x.of(1, 2), 0);
            due("hics", x.of(0, 7), 7);
            line(x, 0, 0, 0, 1, 7);
            due("held", x.held(0), 5);
            due("calls", x.calls(0), 5);
            due("gossip", x.gossip(0, 1, 0), 5);
            due("terms", x.terms(0, 0), 5);
            due("terms", x.terms(1, 0), 6);
            due("tree", x.tree(0, 0, 0), 2);
            due("stair", x.stair(1, 1, 0), 0);
            due("game", x.game(), 1);
            due("nothing to undo", x.undo(), false);
        }
        due("named in minute 5", x.goes(6, 2), 2);
        // A later image takes the first one's place.
        due("set", x.set(0, 0, 8), true);
        due("image", x.image(true), true);
        due("set", x.set(0, 0, 2), true);
        due("image", x.image(false), true);
        due("nerve", x.of(0, 0), 8);
    }

    private static void looks() {
        run = "looks";
        HiccupLane x = lane(0, 0, 0);
        due("look(11)", x.look(11), -100000);
        due("look(-1)", x.look(-1), -100000);
        due("set", x.set(1, 0, 5), true);
        due("set", x.set(1, 2, 5), true);
        due("a set", x.look(1), 5);
        fine(x, 1, "at 0 person 0 names 1;at 0 person 0 names 2;", 2);
        fine(x, 3, "person 0 says 1;person 0 says 2;person 0 says 1;", 3);
        due("talk", x.look(7), 2);
        due("rows", x.look(9), 3);
        due("state", x.state(-5), 0);
        due("state as it is", x.look(5), -5);
    }
}
