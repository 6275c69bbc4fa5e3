/** Promises 7 to 11 and part 2: what each sentence that names a boundary says of it. */
public final class TextEdges extends Due {
    private static final int MOST = Integer.MAX_VALUE;
    private static final int LEAST = Integer.MIN_VALUE;

    public static void main(String[] args) {
        tapeAtMost();
        bytesHighestFirst();
        firstBytesAlone();
        tapeIsEmptyThen();
        noSuchText();
        faultsToldOfTheLatest();
        textsEmptyAtFirst();
        sixteenLines();
        talkUnlike();
        talkMinutes();
        cureBounds();
        glassUnlike();
        rowsUnlike();
        rowsAtMost();
        lastLineForOne();
        toldTwice();
        anotherText();
        longestText();
        eachTokenStands();
        keywordsOfEachText();
        lettersTogether();
        allSigns();
        digitsTogether();
        blanks();
        intsWrap();
        partsTowardsNone();
        faultsByPlace();
        endOfTheText();
        partByNone();
        personsThereAre();
        sameAgain();
        seventeenthLine();
        ninthOpen();
        seventhPerson();
        whatCanStand();
        firstLineThatIsSo();
        andBeforeOr();
        eachMixOfClaims();
        wordsOfTheLaw();
        nearOfNone();
        end("the texts' edges");
    }

    private static void tapeAtMost() {
        sentence("how many it has. NONE, and nothing comes, if there would be more than 400.");
        Trial x = new Trial();
        for (int i = 1; i <= 20; i++) {
            x.due("feed 1 2 3 4 5", 20 * i);
        }
        x.leaves("feed 1 2 3 4 5", -1);
        x.due("end 381", 1);
        x.leaves("feed 1 2 3 4 5", -1);
        x.due("end 380", 1).due("feed 1 2 3 4 5", 400);
        x.due("end 1", 1).due("feed 1 2 3 4 5", 21);
        Trial.full().leaves("feed 0 0 0 0 0", -1);
    }

    private static void bytesHighestFirst() {
        sentence("Twenty bytes come behind the TAPE, of each number the highest first:");
        Trial x = Trial.lane(0);
        // "hics" " 12;" and blanks; then the same with each number at each place.
        x.due("feed 1751737203 540095035 538976288 538976288 538976288", 20).due("text 0", 1).due("of 0 7", 12);
        x.due("feed 538976288 1751737203 540095035 538976288 538976288", 20).due("text 0", 1).due("of 0 7", 12);
        x.due("feed 538976288 538976288 1751737203 540095035 538976288", 20).due("text 0", 1).due("of 0 7", 12);
        x.due("feed 538976288 538976288 538976288 1751737203 540095035", 20).due("text 0", 1).due("of 0 7", 12);
        // A negative number's bytes are 128 and more.
        x.due("feed " + LEAST + " -1 0 0 0", 20).due("text 0", -1).due("fault 0", 1).due("fault 1", 0);
        // Behind what there is: "hi" "cs 5;".
        x.due("feed 1751711744 0 0 0 0", 20).due("end 2", 1).due("feed 1668489269 991961120 538976288 538976288 538976288", 22);
        x.due("text 0", 1).due("of 0 7", 5);
    }

    private static void firstBytesAlone() {
        sentence("The TAPE has its first n bytes alone: true; false, changing nothing, if it has not so many, or n is below 0.");
        Trial x = Trial.lane(0);
        x.due("feed 1751737203 540095035 540095035 540095035 540095035", 20);
        for (int n : new int[] {-1, 21, 400, LEAST, MOST}) {
            x.leaves("end " + n, 0);
        }
        x.leaves("end 20", 1);
        x.due("end 8", 1);
        x.leaves("end 9", 0);
        x.due("text 0", 1).due("of 0 7", 12);
        x.leaves("end 0", 1);
        x.leaves("end 1", 0);
        // What stands behind goes on neither letters nor digits.
        Trial y = Trial.lane(0);
        y.feed(0, "hicsx 1;");
        y.due("end 4", 1).due("text 0", -1).due("fault 0", 1).due("fault 1", 4);
        y.feed(0, "hics 12345;");
        y.due("end 6", 1).due("text 0", -1).due("fault 0", 1).due("fault 1", 6);
        y.feed(0, "hics 12345;");
        y.due("end 6", 1).due("feed 991961120 538976288 538976288 538976288 538976288", 26).due("text 0", 1).due("of 0 7", 1);
        Trial.full().leaves("end 401", 0);
        Trial.full().leaves("end 400", 1);
        Trial.full().due("end 0", 1).due("end 1", 0).due("feed 0 0 0 0 0", 20);
    }

    private static void tapeIsEmptyThen() {
        sentence("The TAPE, empty then (whatever k, with a FAULT too), is TEXT k: how many lines.");
        for (int k = -1; k <= 4; k++) {
            Trial x = Trial.rich();
            x.due("text " + k, k == 0 ? 2 : -1).due("end 1", 0).due("end 0", 1).due("feed 0 0 0 0 0", 20);
        }
        Trial x = Trial.rich();
        for (int k = 0; k <= 3; k++) {
            x.fine(k, "", 0).due("look " + (6 + k), 0);
        }
    }

    private static void noSuchText() {
        sentence("NONE: no such one (fault() tells 0), or a FAULT (the TEXT stays as it was; the TAPE is empty in each case).");
        for (int k : new int[] {-1, 4, LEAST, MOST}) {
            Trial x = Trial.rich();
            x.due("fault 0", 1).due("fault 1", 4);
            x.due("end 0", 1);
            x.due("text " + k, -1).due("fault 0", 0).due("fault 1", -1);
            x.due("look 6", 3).due("look 7", 3).due("look 8", 4).due("look 9", 2).due("look 10", 6);
            x.leaves("text " + k, -1);
        }
        // A FAULT in each text leaves it; "faulty" compares all that can be seen.
        Trial x = Trial.rich();
        for (int k = 0; k < 4; k++) {
            x.faulty(k, ";", 1, 0);
        }
        x.faulty(0, "hics 1;stops 2", 1, 14);
        x.faulty(1, "at 0 person 1 names 0;at", 1, 24);
        x.faulty(2, "at 0 sugar 1;at", 1, 15);
        x.faulty(3, "person 0 says 1;person", 1, 22);
    }

    private static void faultsToldOfTheLatest() {
        sentence("Of the latest text() what 0 the FAULT (0 without one), 1 its place (NONE). NONE for another what.");
        Trial x = Trial.lane(0, 0);
        x.due("fault 0", 0).due("fault 1", -1);
        for (int round = 0; round < 2; round++) {
            for (int what : new int[] {-1, 2, LEAST, MOST}) {
                x.leaves("fault " + what, -1);
            }
            x.faulty(0, "hics 1/0;", 2, 7);
        }
        x.faulty(0, ";", 1, 0);
        x.fine(0, "", 0);
        x.faulty(3, "person 0 says 0;", 2, 14);
        x.fine(3, "person 0 says 1;", 1);
    }

    private static void textsEmptyAtFirst() {
        sentence("==== 2. TEXTS (empty at first).");
        Trial x = Trial.lane(0, 0);
        for (int what = 6; what <= 9; what++) {
            x.due("look " + what, 0);
        }
        x.due("of 0 7", 20).due("of 0 8", 50).due("of 0 9", 0).due("of 0 20", 1).due("minutes 60", 0).due("look 4", 0);
    }

    /** A line of text k that is fine in a lane of two. */
    private static String line(int k) {
        return new String[] {"hics 1;", "at0person0names1;", "at0sugar0;", "person0says1;"}[k];
    }

    private static void sixteenLines() {
        sentence("16 lines of each at most.");
        Trial x = Trial.lane(0, 0);
        for (int k = 0; k < 4; k++) {
            x.fine(k, line(k).repeat(15), 15).due("look " + (6 + k), 15);
            x.fine(k, line(k).repeat(16), 16).due("look " + (6 + k), 16);
            x.faulty(k, line(k).repeat(17), 3, 16 * line(k).length());
        }
        // The 16th line is heard as well as the first.
        x.fine(0, "stops 1;".repeat(15) + "hics 8;", 16).due("of 0 7", 8);
        x.fine(0, "hics 1+1 when 1=2;".repeat(15) + "passes 9;", 16).due("of 0 9", 9).due("of 0 7", 20).due("of 0 8", 50);
        x.fine(3, "person0says1;".repeat(15) + "person1says0;", 16).due("of 1 20", 0);
        Trial eight = Trial.lane(0, 0, 0, 0, 0, 0, 0, 0);
        eight.fine(3, "person0says1;".repeat(15) + "person 7 says 6 5 4 3 2 1;", 16);
        for (int i = 0; i < 7; i++) {
            eight.due("of 7 " + (20 + i), 6 - i);
        }
        x.fine(1, "", 0).fine(2, "at1sugar0;".repeat(15) + "at0sugar0;", 16).due("minutes 1", 0).due("of 0 0", 1);
        x.fine(1, "at9person0names1;".repeat(15) + "at1person1names0;", 16);
        x.due("minutes 1", 2).due("of 0 4", 1);
    }

    private static void talkUnlike() {
        sentence("1 TALK = {at MINUTE person PERSON names PERSON ;} (unlike;");
        Trial x = Trial.lane(0, 0, 0);
        x.faulty(1, "at 0 person 1 names 1;", 2, 20);
        x.faulty(1, "at 0 person 1 names 01;", 2, 20);
        x.faulty(1, "at 0 person 0 names 0;", 2, 20);
        x.fine(1, "at 0 person 1 names 0;at 0 person 1 names 2;at 0 person 0 names 1;", 3);
    }

    private static void talkMinutes() {
        sentence("MINUTE 0 .. 999.)");
        Trial x = Trial.lane(0, 0);
        for (String minute : new String[] {"0", "1", "998", "999", "0999", "0000"}) {
            x.fine(1, "at " + minute + " person 0 names 1;", 1);
            x.fine(2, "at " + minute + " sugar 0;", 1);
        }
        for (String minute : new String[] {"1000", "1001", "9999"}) {
            x.faulty(1, "at " + minute + " person 0 names 1;", 2, 3);
            x.faulty(2, "at " + minute + " sugar 0;", 2, 3);
        }
        x.faulty(1, "at 00000 person 0 names 1;", 1, 3);
        x.faulty(2, "at - 1 sugar 0;", 1, 3);
    }

    private static void cureBounds() {
        sentence("(breath 1 .. 99; glass: from the first to the second, unlike.)",
            "2 CURES = {at MINUTE (fright PERSON | breath PERSON N | glass PERSON PERSON | sugar PERSON) ;}");
        Trial x = Trial.lane(0, 0);
        for (String n : new String[] {"1", "2", "98", "99", "0099"}) {
            x.fine(2, "at 0 breath 0 " + n + ";", 1);
        }
        for (String n : new String[] {"0", "0000", "100", "9999"}) {
            x.faulty(2, "at 0 breath 0 " + n + ";", 2, 14);
        }
        x.faulty(2, "at 0 breath 0;", 1, 13);
        x.faulty(2, "at 0 breath 0 00001;", 1, 14);
        x.fine(2, "at 0 breath 0 99;", 1).due("set 1 0 99", 1).due("minutes 1", 0).due("of 0 1", 0);
    }

    private static void glassUnlike() {
        sentence("glass: from the first to the second, unlike.)");
        Trial x = Trial.lane(0, 0, 0);
        x.faulty(2, "at 0 glass 0 0;", 2, 13);
        x.faulty(2, "at 0 glass 2 02;", 2, 13);
        x.fine(2, "at 0 glass 2 1;", 1).due("set 1 2 9", 1).fine(0, "stops 0;passes 0;", 2);
        x.due("minutes 1", 0).due("of 2 1", 0).due("of 1 1", 9).due("of 1 2", 2).due("of 1 3", 1);
    }

    private static void rowsUnlike() {
        sentence("3 ROWS = {person PERSON says PERSON {PERSON} ;} (none himself; 1 .. 6;");
        Trial x = Trial.lane(0, 0, 0);
        x.faulty(3, "person 0 says 0;", 2, 14);
        x.faulty(3, "person 2 says 1 2;", 2, 16);
        x.faulty(3, "person 2 says 1 1 0 1 0 2;", 2, 24);
        x.fine(3, "person 2 says 1;person 2 says 0 1;", 2);
    }

    private static void rowsAtMost() {
        sentence("(none himself; 1 .. 6; of several lines");
        Trial x = Trial.lane(0, 0, 0, 0, 0, 0, 0, 0);
        x.faulty(3, "person 0 says;", 1, 13);
        x.fine(3, "person 0 says 7;", 1).due("of 0 20", 7).due("of 0 21", 1);
        x.fine(3, "person 0 says 7 6 5 4 3;", 1).due("of 0 24", 3).due("of 0 25", 1);
        x.fine(3, "person 0 says 7 6 5 4 3 2;", 1).due("of 0 25", 2).due("of 0 26", 1).due("of 0 27", -1);
        x.faulty(3, "person 0 says 7 6 5 4 3 2 1;", 3, 26);
    }

    private static void lastLineForOne() {
        sentence("of several lines for one the last: in this order he says names,");
        Trial x = Trial.lane(0, 0, 0, 0);
        x.fine(3, "person 0 says 3 2;person 1 says 2;person 0 says 2;person 2 says 3;", 4);
        x.due("of 0 20", 2).due("of 0 21", 1).due("of 0 22", 3).due("of 0 23", -1).due("of 0 10", 2);
        x.due("of 1 20", 2).due("of 2 20", 3).due("of 3 20", 0);
        x.due("set 1 0 9", 1).due("act 3 0 0", 1).due("of 0 3", 4).due("of 0 10", 1);
    }

    private static void toldTwice() {
        sentence("told twice at the first place; then all others by number.)");
        Trial x = Trial.lane(0, 0, 0, 0);
        x.fine(3, "person 1 says 3 2 3 3 2 3;", 1);
        x.due("of 1 20", 3).due("of 1 21", 2).due("of 1 22", 0).due("of 1 23", -1);
        x.due("person 0", 4).due("of 1 23", 4).due("of 1 24", -1);
    }

    private static void anotherText() {
        sentence("The TAPE, empty then (whatever k, with a FAULT too), is TEXT k:");
        // Nothing of the text ahead stays, though it had more lines and more names.
        Trial x = Trial.lane(0, 0, 0, 0, 0, 0, 0, 0);
        x.fine(3, "person 0 says 7 6 5 4 3 2;person 1 says 7;", 2).fine(3, "person 0 says 3;", 1);
        x.due("of 0 20", 3).due("of 0 21", 1).due("of 0 22", 2).due("of 1 20", 0).due("look 9", 1);
        x.fine(0, "hics 5;stops 6;passes 7;", 3).fine(0, "stops 8;", 1).due("of 0 7", 20).due("of 0 8", 8).due("of 0 9", 0);
        x.fine(1, "at 0 person 0 names 1;at 0 person 0 names 2;", 2).fine(1, "at 0 person 0 names 3;", 1);
        x.fine(2, "at 0 sugar 1;at 0 sugar 2;", 2).fine(2, "at 0 sugar 3;", 1);
        x.ask("minutes 1");
        x.due("of 1 4", 0).due("of 2 4", 0).due("of 3 4", 1).due("of 1 0", 0).due("of 2 0", 0).due("of 3 0", 1);
    }

    private static void longestText() {
        sentence("NONE, and nothing comes, if there would be more than 400.");
        // A law of 400 bytes, told again and again: 98 times 1+3, and 5.
        Trial x = Trial.lane(0, 0, 0, 0, 0, 0, 0, 0);
        String law = "stops " + "1+3+".repeat(98) + "5;";
        due("bytes", law.length(), 400);
        for (int i = 0; i < 4; i++) {
            x.fine(0, law, 1).due("of 0 8", 397);
        }
        x.faulty(0, law.substring(0, 399), 1, 399);
        x.faulty(0, law.substring(0, 398), 1, 398);
        Trial y = Trial.lane(0);
        y.fine(0, "stops 3 when " + "1=2 or ".repeat(54) + "2*2=4;  ", 1).due("of 0 8", 3);
        y.fine(0, "stops 3 when " + "1=1 and ".repeat(47) + "2*2=5;     ", 1).due("of 0 8", 50);
        y.faulty(0, "a".repeat(400), 1, 0);
        y.faulty(0, "1".repeat(400), 1, 0);
        y.faulty(0, "hics" + "1".repeat(396), 1, 4);
        y.faulty(0, ";".repeat(400), 1, 0);
        y.faulty(0, "(".repeat(400), 1, 0);
        y.faulty(0, "hics 1 when " + "(".repeat(388), 3, 20);
    }

    /** Each token of a line left out, or told twice: what stands there then can't. */
    private static void eachTokenStands() {
        sentence("1 what can't stand there");
        tokens(0, "hics 1 when 1 = 1 ;", new int[] {0, 5, 7, 12, 14, 16, 18}, new int[] {5, 7, 12, 14, 16, 18, 20});
        tokens(1, "at 0 person 1 names 0 ;", new int[] {0, 3, 5, 12, 14, 20, 22}, new int[] {3, 5, 12, 14, 20, 22, 24});
        tokens(2, "at 0 fright 0 ;", new int[] {0, 3, 5, 12, 14}, new int[] {3, 5, 12, 14, 16});
        tokens(2, "at 0 sugar 0 ;", new int[] {0, 3, 5, 11, 13}, new int[] {3, 5, 11, 13, 15});
        // Of two numbers side by side the other one stands where one is left out.
        tokens(2, "at 0 breath 3 5 ;", new int[] {0, 3, 5, 14, 14, 16}, new int[] {3, 5, 12, 16, 16, 18});
        tokens(2, "at 0 glass 0 1 ;", new int[] {0, 3, 5, 13, 13, 15}, new int[] {3, 5, 11, ANOTHER, 15, 17});
        tokens(3, "person 1 says 0 ;", new int[] {0, 7, 9, 14, 16}, new int[] {7, 9, 14, FINE, 18});
    }

    private static final int FINE = -1;
    private static final int ANOTHER = -2;

    private static void tokens(int k, String line, int[] leftOut, int[] twice) {
        String[] tokens = line.split(" ");
        for (int i = 0; i < tokens.length; i++) {
            StringBuilder without = new StringBuilder();
            StringBuilder with = new StringBuilder();
            for (int j = 0; j < tokens.length; j++) {
                without.append(j == i ? "" : tokens[j] + " ");
                with.append(j == i ? tokens[j] + " " : "").append(tokens[j]).append(" ");
            }
            Trial x = Trial.lane(0, 0, 0, 0, 0, 0);
            x.fine(k, line, 1);
            faultyOrFine(x, k, without.toString(), leftOut[i]);
            faultyOrFine(x, k, with.toString(), twice[i]);
        }
    }

    private static void faultyOrFine(Trial x, int k, String text, int place) {
        if (place == FINE) {
            x.fine(k, text, 1);
        } else if (place != ANOTHER) {
            x.faulty(k, text, 1, place);
        }
    }

    private static final String FACTS = "nerve strong tried named found frights near minute";
    private static final String[] KEYWORDS = ("hics stops passes when or and not " + FACTS
        + " at person names fright breath glass sugar says").split(" ");

    /** Each keyword at each place: it stands where the text has it, and can't stand anywhere else. */
    private static void keywordsOfEachText() {
        sentence("KEYWORDS (those told here for that text) or none;");
        keywordsAt(0, "", "hics stops passes", "", " 1 ;");
        keywordsAt(0, "hics ", FACTS, "", " ;");
        keywordsAt(0, "hics 1 ", "when", "", " 1 = 1 ;");
        keywordsAt(0, "hics 1 when ", FACTS, "not", " = 1 ;");
        keywordsAt(0, "hics 1 when ( ", FACTS, "not", " = 1 ) ;");
        keywordsAt(0, "hics 1 when not ", FACTS, "not", " = 1 ;");
        keywordsAt(0, "hics 1 when 1 = ", FACTS, "", " ;");
        keywordsAt(0, "hics 1 when 1 = 1 ", "and or", "", " 1 = 1 ;");
        keywordsAt(0, "hics 1 when 1 = 1 and ", FACTS, "not", " = 1 ;");
        keywordsAt(0, "hics 1 + ", FACTS, "", " ;");
        keywordsAt(0, "hics 1 * ", FACTS, "", " ;");
        keywordsAt(0, "hics 1 / ", "", "", " ;");
        keywordsAt(0, "hics 1 ; ", "hics stops passes", "", " 1 ;");
        keywordsAt(1, "", "at", "", " 0 person 1 names 0 ;");
        keywordsAt(1, "at ", "", "", " person 1 names 0 ;");
        keywordsAt(1, "at 0 ", "person", "", " 1 names 0 ;");
        keywordsAt(1, "at 0 person ", "", "", " names 0 ;");
        keywordsAt(1, "at 0 person 1 ", "names", "", " 0 ;");
        keywordsAt(1, "at 0 person 1 names ", "", "", " ;");
        keywordsAt(1, "at 0 person 1 names 0 ", "", "", " ;");
        keywordsAt(2, "", "at", "", " 0 sugar 0 ;");
        keywordsAt(2, "at ", "", "", " sugar 0 ;");
        keywordsAt(2, "at 0 ", "fright sugar", "breath glass", " 1 ;");
        keywordsAt(2, "at 0 ", "breath glass", "fright sugar", " 1 2 ;");
        keywordsAt(2, "at 0 fright ", "", "", " ;");
        keywordsAt(2, "at 0 sugar ", "", "", " ;");
        keywordsAt(2, "at 0 glass 0 ", "", "", " ;");
        keywordsAt(2, "at 0 breath 0 ", "", "", " ;");
        keywordsAt(3, "", "person", "", " 1 says 0 ;");
        keywordsAt(3, "person ", "", "", " says 0 ;");
        keywordsAt(3, "person 1 ", "says", "", " 0 ;");
        keywordsAt(3, "person 1 says ", "", "", " ;");
        keywordsAt(3, "person 1 says 0 ", "", "", " ;");
    }

    /** Some stand there and what is behind them too, of others what is behind them can't; all others can't. */
    private static void keywordsAt(int k, String ahead, String stand, String standAlone, String behind) {
        for (String word : KEYWORDS) {
            Trial x = Trial.lane(0, 0, 0);
            String text = ahead + word + behind;
            int lines = text.split(";").length;
            if (has(stand, word)) {
                x.fine(k, text, lines);
            } else {
                due("text(" + k + ") " + text, x.ask("text " + x.feed(k, text)), -1);
                due("fault(0) of " + text, x.ask("fault 0"), 1);
                int further = has(standAlone, word) ? (int) x.ask("fault 1") : ahead.length();
                due("fault(1) of " + text, x.ask("fault 1"), further);
                holds("its place is behind the keyword: " + text, !has(standAlone, word) || further > ahead.length() + word.length());
            }
        }
    }

    private static boolean has(String words, String word) {
        return (" " + words + " ").contains(" " + word + " ");
    }

    private static void lettersTogether() {
        sentence("letters (a .. z, A .. Z) as many as stand together are KEYWORDS (those told here for that text) or none;");
        Trial x = Trial.lane(0, 0);
        x.fine(0, "hics1when1=1and1=1;", 1);
        for (String letters : new String[] {"ahics", "zhics", "hicsa", "hicsz", "hicsA", "hicsZ", "Ahics", "Zhics", "Hics", "HICS", "hic", "hicss"}) {
            x.faulty(0, letters + " 1;", 1, 0);
        }
        // Ahead of a and A and behind z and Z no letters stand: the KEYWORD ends there.
        for (char sign : "`{@[".toCharArray()) {
            x.faulty(0, "hics" + sign + "1;", 1, 4);
        }
        x.faulty(0, "hics nervestrong;", 1, 5);
        x.fine(0, "hics nerve+strong;", 1);
        // Words of other texts are none here.
        for (String word : new String[] {"at", "person", "names", "says", "fright", "sugar"}) {
            x.faulty(0, word + " 1;", 1, 0);
            x.faulty(0, "hics " + word + ";", 1, 5);
        }
        x.faulty(1, "hics 1;", 1, 0);
        x.faulty(1, "at 0 sugar 1;", 1, 5);
        x.faulty(2, "at 0 person 1 names 0;", 1, 5);
        x.faulty(2, "person 0 says 1;", 1, 0);
        x.faulty(3, "person 0 names 1;", 1, 9);
        x.faulty(3, "at 0 sugar 1;", 1, 0);
    }

    private static void allSigns() {
        sentence("; + - * / ( ) < = > . Blanks (32, 10) between.");
        for (int sign = 0; sign < 256; sign++) {
            Trial x = Trial.lane(0, 0);
            char c = (char) sign;
            boolean isBlank = sign == 32 || sign == 10;
            // Behind a number: digits go on, signs join or end, else nothing can stand.
            x.ask("text " + x.feed(0, "hics 1" + c + "1;"));
            boolean isDigit = sign >= '0' && sign <= '9';
            boolean joins = "+-*/".indexOf(c) >= 0;
            x.due("fault 0", isDigit || joins ? 0 : 1);
            x.due("fault 1", isDigit || joins ? -1 : c == ';' || isBlank ? 7 : 6);
            // Behind the last line.
            x.ask("text " + x.feed(0, "hics 1;" + c));
            x.due("fault 0", isBlank ? 0 : 1).due("fault 1", isBlank ? -1 : 7).due("look 6", isBlank || isDigit || joins ? 1 : 0);
            // Between two sums.
            x.ask("text " + x.feed(0, "hics 1 when 2" + c + "2;"));
            boolean compares = "<=>".indexOf(c) >= 0;
            x.due("fault 0", compares ? 0 : 1);
        }
    }

    private static void digitsTogether() {
        sentence("digits as many as stand together NUMBERS of 1 to 4 digits or none;");
        Trial x = Trial.lane(0, 0);
        x.fine(0, "stops 0;", 1).due("of 0 8", 0);
        x.fine(0, "stops 10;", 1).due("of 0 8", 10);
        x.fine(0, "stops 987;", 1).due("of 0 8", 987);
        x.fine(0, "stops 9999-9900;", 1).due("of 0 8", 99);
        x.fine(0, "stops 0007;", 1).due("of 0 8", 7);
        x.faulty(0, "stops 00007;", 1, 6);
        x.faulty(0, "stops 10000;", 1, 6);
        x.faulty(0, "stops 99999;", 1, 6);
        x.faulty(0, "stops 12345678901234567890;", 1, 6);
        x.faulty(0, "stops 12 34;", 1, 9);
        // Though the number is that of a ; or a + among signs.
        x.faulty(0, "stops 1 00059", 1, 8);
        x.faulty(0, "stops 1 00043 2;", 1, 8);
        // Signs ahead of 0 and behind 9 are no digits.
        x.faulty(0, "stops 1:;", 1, 7);
        x.faulty(0, "stops 1/;", 1, 8);
        x.faulty(1, "at 0 person 00000 names 1;", 1, 12);
        x.faulty(3, "person 0 says 00001;", 1, 14);
        x.faulty(3, "person 0 says 1 00001;", 1, 16);
        x.fine(3, "person 0000 says 0001;", 1);
    }

    private static void blanks() {
        sentence("Blanks (32, 10) between.");
        Trial x = Trial.lane(0, 0);
        x.fine(0, " \n\n  ", 0);
        x.fine(0, "\nhics\n1\n;\n \nstops  2 ;", 2);
        x.fine(0, "hics1;stops2;", 2);
        for (char sign : new char[] {0, 9, 11, 12, 13, 31, 33, 127, 160, 255}) {
            x.faulty(0, "hics 1;" + sign, 1, 7);
            x.faulty(0, "hics" + sign + "1;", 1, 4);
        }
    }

    private static void intsWrap() {
        sentence("Ints, which wrap; / goes towards 0.");
        Trial x = Trial.lane(0, 0);
        isSo(x, "8192*8192*32<0", true);
        isSo(x, "8192*8192*32-1>0", true);
        isSo(x, "8192*8192*31+8192*8192<0", true);
        isSo(x, "0-8192*8192*32<0", true);
        isSo(x, "0-8192*8192*32-1>0", true);
        isSo(x, "8192*8192*64=0", true);
        isSo(x, "8192*8192*32=0", false);
        isSo(x, "9999*9999*9999=1000*1000*1000-300*1000*1000-1000*2+1000*30*10-1+8192*8192*48", false);
    }

    private static void isSo(Trial x, String claim, boolean isSo) {
        x.fine(0, "hics 2 when " + claim + ";hics 3;", 2).due("of 0 7", isSo ? 2 : 3);
    }

    private static void partsTowardsNone() {
        sentence("/ goes towards 0.");
        Trial x = Trial.lane(0, 0);
        isSo(x, "7/2=3", true);
        isSo(x, "1/2=0", true);
        // The least int by 3, by 9999 and by 1: downwards it would be one less.
        isSo(x, "8192*8192*32/3=0-9966*217*331", true);
        isSo(x, "8192*8192*32/3=0-9966*217*331-1", false);
        isSo(x, "8192*8192*32/9999=0-2147*100-69", true);
        isSo(x, "8192*8192*32/1=8192*8192*32", true);
        isSo(x, "8192*8192*32/2+8192*8192*16=0", true);
    }

    private static void faultsByPlace() {
        sentence("FAULTS, the first by its place, at one place the least:");
        Trial x = Trial.lane(0, 0, 0);
        x.faulty(1, "at 1000 person 5 names 5", 2, 3);
        x.faulty(1, "at 0 person 5 names 5", 2, 12);
        x.faulty(1, "at 0 person 0 names 0", 2, 20);
        x.faulty(1, "at 0 person 0 names 1", 1, 21);
        x.faulty(1, "at 0 ? 1000", 1, 5);
        x.faulty(0, "hics 1/0/0 ?", 2, 7);
        x.faulty(0, "hics 1/1/0 ?", 2, 9);
        x.faulty(0, "hics 1/1/1 ?", 1, 11);
        // At one place the least: what can't stand ahead of the 17th line, a PERSON beyond bounds ahead of the 7th.
        x.faulty(0, "hics 1;".repeat(16) + "hics", 3, 112);
        x.faulty(0, "hics 1;".repeat(16) + "hicss", 1, 112);
        x.faulty(0, "hics 1;".repeat(16) + "nerve", 1, 112);
        x.faulty(0, "hics 1;".repeat(16) + ";", 1, 112);
        x.faulty(1, line(1).repeat(16) + "person", 1, 272);
        x.faulty(2, line(2).repeat(16) + "sugar", 1, 160);
        x.faulty(3, line(3).repeat(16) + "at", 1, 208);
        x.faulty(3, line(3).repeat(16) + "7", 1, 208);
        x.faulty(3, "person 0 says 1 2 1 2 1 2 0;", 2, 26);
        x.faulty(3, "person 0 says 1 2 1 2 1 2 3;", 2, 26);
        x.faulty(3, "person 0 says 1 2 1 2 1 2 01;", 3, 26);
        x.faulty(3, "person 0 says 1 2 1 2 1 2 says;", 1, 26);
        x.faulty(3, "person 0 says 1 2 1 2 1 2 00001;", 1, 26);
    }

    private static void endOfTheText() {
        sentence("1 what can't stand there (the end: the text's length).");
        Trial x = Trial.lane(0, 0);
        String[] whole = {"hics 1 when ( not 1 = 1 or 1 < 2 ) and 1 > 2 ;", "at 0 person 0 names 1 ;", "at 0 glass 0 1 ;", "person 0 says 1 ;"};
        for (int k = 0; k < 4; k++) {
            x.fine(k, whole[k], 1);
            x.fine(k, "", 0);
            // Cut behind each word: the end can't stand there; the blanks ahead of it count.
            for (int i = 1; i < whole[k].length(); i++) {
                if (whole[k].charAt(i) == ' ') {
                    Trial y = Trial.lane(0, 0);
                    y.faulty(k, whole[k].substring(0, i), 1, i);
                    y.faulty(k, whole[k].substring(0, i) + " \n ", 1, i + 3);
                }
            }
        }
        x.faulty(0, "hics" + " ".repeat(396), 1, 400);
        x.faulty(0, " ".repeat(399) + ";", 1, 399);
        x.fine(0, " ".repeat(393) + "hics 5;", 1).due("of 0 7", 5);
        x.fine(0, " ".repeat(400), 0);
    }

    private static void partByNone() {
        sentence("2 (at the NUMBER) a part by 0;");
        Trial x = Trial.lane(0, 0);
        x.faulty(0, "hics 1/0;", 2, 7);
        x.faulty(0, "hics 1 / \n 0;", 2, 11);
        x.faulty(0, "hics 0/0;", 2, 7);
        x.faulty(0, "hics 1/0000;", 2, 7);
        x.faulty(0, "hics 1 when 1/0=1;", 2, 14);
        x.faulty(0, "hics 1 when 1=1/0;", 2, 16);
        x.faulty(0, "hics 1/nerve;", 1, 7);
        x.faulty(0, "hics 1/00000;", 1, 7);
        x.fine(0, "hics 60/1;", 1).due("of 0 7", 60);
        x.fine(0, "hics 9999/9999;", 1).due("of 0 7", 1);
        x.fine(0, "hics 2*0;", 1).fine(0, "hics 2-0;", 1).fine(0, "hics 2/1*0+0;", 1);
    }

    private static void personsThereAre() {
        sentence("one beyond its bounds; a PERSON that there is not;");
        for (int n = 0; n <= 14; n += 2) {
            Trial x = Trial.lane(new int[n]);
            int last = n - 1;
            if (n > 0) {
                x.fine(1, "at 0 person " + last + " names 0;", 1).fine(1, "at 0 person 0 names " + last + ";", 1);
                x.fine(2, "at 0 fright " + last + ";at 0 breath " + last + " 1;at 0 sugar " + last + ";", 3);
                x.fine(2, "at 0 glass " + last + " 0;at 0 glass 0 " + last + ";", 2);
                x.fine(3, "person " + last + " says 0;person 0 says " + last + ";", 2);
                x.faulty(1, "at 0 person 0 names " + n + ";", 2, 20);
                x.faulty(2, "at 0 glass 0 " + n + ";", 2, 13);
                x.faulty(3, "person 0 says " + n + ";", 2, 14);
                x.faulty(3, "person 0 says " + last + " " + n + ";", 2, last > 9 ? 17 : 16);
            }
            x.faulty(1, "at 0 person " + n + " names 0;", 2, 12);
            x.faulty(2, "at 0 fright " + n + ";", 2, 12);
            x.faulty(2, "at 0 breath " + n + " 1;", 2, 12);
            x.faulty(2, "at 0 sugar " + n + ";", 2, 11);
            x.faulty(2, "at 0 glass " + n + " 0;", 2, 11);
            x.faulty(3, "person " + n + " says 0;", 2, 7);
            x.faulty(3, "person 9999 says 0;", 2, 7);
        }
        // One who comes later is there for the texts told then.
        Trial x = Trial.lane(0);
        x.faulty(3, "person 0 says 1;", 2, 14);
        x.due("person 0", 1).fine(3, "person 0 says 1;", 1);
    }

    private static void sameAgain() {
        sentence("the same PERSON again (behind names, the second one of glass, behind says).");
        Trial x = Trial.lane(0, 0);
        x.faulty(1, "at 0 person 1 names 1;", 2, 20);
        x.faulty(2, "at 0 glass 1 1;", 2, 13);
        x.faulty(3, "person 1 says 1;", 2, 14);
        x.faulty(3, "person 1 says 0 1;", 2, 16);
        x.fine(3, "person 1 says 0 0;", 1);
        x.fine(1, "at 0 person 1 names 0;at 1 person 1 names 0;", 2);
        // N of breath may be the same number.
        x.fine(2, "at 0 breath 1 1;", 1);
    }

    private static void seventeenthLine() {
        sentence("3 (at its KEYWORD) the 17th line of a text;");
        Trial x = Trial.lane(0, 0);
        for (int k = 0; k < 4; k++) {
            int at = 16 * line(k).length();
            x.fine(k, line(k).repeat(16) + " \n", 16);
            x.faulty(k, line(k).repeat(16) + " \n" + line(k), 3, at + 2);
            x.faulty(k, line(k).repeat(16) + new String[] {"passes", "at", "at 1000", "person 7"}[k], 3, at);
            // A fault ahead of it comes first.
            x.faulty(k, line(k).repeat(15) + ";" + line(k), 1, 15 * line(k).length());
        }
    }

    private static void ninthOpen() {
        sentence("(at it) the 9th ( or not that is open,");
        Trial x = Trial.lane(0, 0);
        x.fine(0, "hics 1 when " + "(".repeat(8) + "1=1" + ")".repeat(8) + ";", 1);
        x.faulty(0, "hics 1 when " + "(".repeat(9) + "1=1" + ")".repeat(9) + ";", 3, 20);
        x.fine(0, "hics 1 when " + "not ".repeat(8) + "1=1;", 1);
        x.faulty(0, "hics 1 when " + "not ".repeat(9) + "1=1;", 3, 44);
        x.fine(0, "hics 1 when " + "(not ".repeat(4) + "1=1" + ")".repeat(4) + ";", 1);
        x.faulty(0, "hics 1 when " + "(not ".repeat(4) + "(1=1" + ")".repeat(5) + ";", 3, 32);
        x.faulty(0, "hics 1 when " + "not(".repeat(4) + "not 1=1" + ")".repeat(4) + ";", 3, 28);
        x.faulty(0, "hics 1 when " + "(".repeat(8) + "1=1 and (1=1)" + ")".repeat(8) + ";", 3, 28);
        x.faulty(0, "hics 1 when " + "(".repeat(8) + "1=1 or not 1=1" + ")".repeat(8) + ";", 3, 27);
        // What is closed is open no more: a ( by its ), a not behind its claim.
        x.fine(0, "hics 1 when " + "(1=1) and ".repeat(9) + "1=1;", 1);
        x.fine(0, "hics 1 when " + "not 1=1 and ".repeat(9) + "1=1;", 1);
        x.fine(0, "hics 1 when " + "not 1=1 or ".repeat(9) + "(".repeat(8) + "1=1" + ")".repeat(8) + ";", 1);
        x.fine(0, "hics 1 when not(1=1) and " + "(".repeat(8) + "1=1" + ")".repeat(8) + ";", 1);
        x.fine(0, "hics 1 when " + "(".repeat(7) + "(1=1) and not 1=1" + ")".repeat(7) + ";", 1);
        x.fine(0, "hics 1 when " + "(".repeat(8) + "1=1" + ")".repeat(8) + ";stops 1 when " + "(".repeat(8) + "1=1" + ")".repeat(8) + ";", 2);
        // A 9th one that can't stand there is what can't stand.
        x.faulty(0, "hics 1 when " + "(".repeat(8) + "1=(", 1, 22);
    }

    private static void seventhPerson() {
        sentence("the 7th PERSON of a line of ROWS.");
        Trial x = Trial.lane(0, 0, 0, 0, 0, 0, 0, 0);
        x.fine(3, "person 0 says 1 2 3 4 5 6;", 1);
        x.faulty(3, "person 0 says 1 2 3 4 5 6 7;", 3, 26);
        x.faulty(3, "person 0 says 1 1 1 1 1 1 1;", 3, 26);
        x.faulty(3, "person 0 says 1 1 1 1 1 1 1 1;", 3, 26);
        x.faulty(3, "person 0 says 1 2 3 4 5 6", 1, 25);
        x.faulty(3, "person 0 says 1 2 3 4 5 6;person 1 says 2 3 4 5 6 7 0;", 3, 52);
        x.fine(3, "person 0 says 1 2 3 4 5 6;person 1 says 2 3 4 5 6 7;", 2);
    }

    private static void whatCanStand() {
        sentence("0 THE LAW = {(hics | stops | passes) E [when B] ;}.",
            "E = T {(+ | -) T}. T = U {* U | / NUMBER}. U = NUMBER | nerve | strong | tried | named | found | frights | near | minute.");
        Trial x = Trial.lane(0, 0);
        String[] bad = {"hics ;", "hics when 1=1;", "hics 1 1;", "hics 1 nerve;", "hics +1;", "hics -1;", "hics (1);", "hics 1*;", "hics 1**2;",
            "hics 1+(2);", "hics 1=1;", "hics 1 and 1;", "hics 1 when;", "hics 1 when 1;", "hics 1 when 1<;", "hics 1 when <1;",
            "hics 1 when 1<1<1;", "hics 1 when 1=1 1=1;", "hics 1 when ();", "hics 1 when (1);", "hics 1 when (1)=1;", "hics 1 when not;",
            "hics 1 when not 1;", "hics 1 when and 1=1;", "hics 1 when 1=1 and;", "hics 1 when 1=1 or or 1=1;", "hics 1 when 1=1);",
            "hics 1 when (1=1;", "hics 1 when 1=1 when 1=1;", "hics 1 when 1=1 not 1=1;", "hics hics;", "1;", "when;"};
        int[] places = {5, 5, 7, 7, 5, 5, 5, 7, 7, 7, 6, 7, 11, 13, 14, 12, 15, 16, 13, 14, 14, 15, 17, 12, 19, 19, 15, 16, 16, 16, 5, 0, 0};
        for (int i = 0; i < bad.length; i++) {
            x = Trial.lane(0, 0);
            x.faulty(0, bad[i], 1, places[i]);
        }
        x.fine(0, "hics 1;stops 2;passes 3;", 3).due("of 0 7", 1).due("of 0 8", 2).due("of 0 9", 3);
        x.fine(0, "hics 1 when((1=1)or not(not 1=1));", 1).due("of 0 7", 1);
    }

    private static void firstLineThatIsSo() {
        sentence("What THE LAW tells of a PERSON for a word: E of the first line with that word whose B is so, or that has none");
        Trial x = Trial.lane(4, 6);
        x.fine(0, "stops 9;hics 5 when nerve>5;hics 6 when nerve<5;hics 7;passes 8;", 5);
        x.due("of 0 7", 6).due("of 1 7", 5).due("set 0 0 5", 1).due("of 0 7", 7).due("of 0 8", 9).due("of 0 9", 8);
        x.fine(0, "hics 7;hics 5 when nerve=6;", 2).due("of 1 7", 7);
        x.fine(0, "hics 5 when nerve=5;", 1).due("of 0 7", 5).due("of 1 7", 14);
    }

    private static void andBeforeOr() {
        sentence("B = A {or A}. A = C {and C}. C = E (< | = | >) E | not C | ( B ).");
        Trial x = Trial.lane(0, 0);
        isSo(x, "1=1 or 1=1 and 1=2", true);
        isSo(x, "1=2 and 1=2 or 1=1", true);
        isSo(x, "(1=1 or 1=1) and 1=2", false);
        isSo(x, "1=2 and (1=2 or 1=1)", false);
        isSo(x, "not 1=2 and 1=2", false);
        isSo(x, "not 1=1 or 1=1", true);
        isSo(x, "not (1=1 or 1=1)", false);
        isSo(x, "not not 1=1", true);
        isSo(x, "1=2 or 1=2 or 1=1", true);
        isSo(x, "1=2 or 1=2", false);
        isSo(x, "1=1 and 1=1", true);
        x = Trial.lane(0, 0);
        isSo(x, "1<2 and 2=2 and 2>1 and not 1=2 and not 1<1 and not 1>1", true);
        isSo(x, "not 1=2 and 1=1", true);
        isSo(x, "1=1 and not (1=1 and not 1=2)", false);
        isSo(x, "1=1 and 1=1 and 1=2", false);
        x = Trial.lane(0, 0);
        int[][] pairs = {{1, 2}, {2, 2}, {2, 1}};
        for (int[] pair : pairs) {
            isSo(x, pair[0] + "<" + pair[1], pair[0] < pair[1]);
            isSo(x, pair[0] + "=" + pair[1], pair[0] == pair[1]);
            isSo(x, pair[0] + ">" + pair[1], pair[0] > pair[1]);
        }
        isSo(x, "0-1<0", true);
        isSo(x, "2-3-4=0-5", true);
        isSo(x, "2+3*4=14", true);
        isSo(x, "20/3*3=18", true);
        isSo(x, "2*7/3=4", true);
    }

    /** X, Y and Z so or not so, in each mix. */
    private static void eachMixOfClaims() {
        sentence("B = A {or A}. A = C {and C}. C = E (< | = | >) E | not C | ( B ).");
        String[] forms = {"X and Y", "X or Y", "not X", "not not X and Y", "(X or Y) and Z", "Z and (X or Y)", "X or Y and Z", "X and Y or Z", "(X and Y) or Z",
            "not X and Y", "not X or Y", "X and not Y", "X or not Y", "not (X or Y)", "not (X and Y)", "not (not X or not Y)", "X and Y and Z", "X or Y or Z",
            "(X and (Y or Z))", "not (X or Y) or Z", "not (X and Y) and Z", "(X or Y) and (Y or Z)", "(not X) and (not Y or Z)"};
        for (String form : forms) {
            Trial x = Trial.lane(0, 0);
            for (int mix = 0; mix < 8; mix++) {
                boolean[] so = {(mix & 1) != 0, (mix & 2) != 0, (mix & 4) != 0};
                String claim = form.replace("X", so[0] ? "1=1" : "1=2").replace("Y", so[1] ? "1<2" : "2<1").replace("Z", so[2] ? "2>1" : "1>2");
                isSo(x, claim, isSo(form, so));
            }
        }
    }

    /** What such a form is: the last "or" outside of all brackets parts it, then the last "and", then a not. */
    private static boolean isSo(String form, boolean[] so) {
        String f = form.trim();
        int or = outside(f, " or ");
        if (or >= 0) {
            return isSo(f.substring(0, or), so) | isSo(f.substring(or + 4), so);
        }
        int and = outside(f, " and ");
        if (and >= 0) {
            return isSo(f.substring(0, and), so) & isSo(f.substring(and + 5), so);
        }
        if (f.startsWith("not ")) {
            return !isSo(f.substring(4), so);
        }
        return f.startsWith("(") ? isSo(f.substring(1, f.length() - 1), so) : so[f.charAt(0) - 'X'];
    }

    private static int outside(String form, String word) {
        int open = 0;
        int last = -1;
        for (int i = 0; i < form.length(); i++) {
            open += form.charAt(i) == '(' ? 1 : form.charAt(i) == ')' ? -1 : 0;
            last = open == 0 && form.startsWith(word, i) ? i : last;
        }
        return last;
    }

    private static void wordsOfTheLaw() {
        sentence("nerve, named, found, frights: his; strong: HICCUPS; tried: how many are TRIED;");
        Trial x = Trial.lane(0, 0, 7, 0, 0).fine(0, "stops 0;passes 0;", 2);
        x.due("minutes 5", 0);
        x.due("act 0 2 1", 1).due("act 3 1 0", 1).due("act 3 1 0", 1).due("act 0 4 2", 1).due("act 0 4 2", 1).due("act 0 4 2", 1);
        x.due("act 1 2 0", 1).due("act 1 2 0", 1).due("act 3 2 0", 1).due("act 3 2 0", 1).due("set 1 2 13", 1);
        String[] words = {"nerve", "strong", "tried", "named", "found", "frights", "near", "minute"};
        int[] of2 = {7, 13, 2, 3, 1, 2, 2, 5};
        int[] of0 = {0, 0, 0, 0, 0, 0, 0, 5};
        for (int i = 0; i < words.length; i++) {
            x.fine(0, "stops 100+" + words[i] + ";", 1).due("of 2 8", 100 + of2[i]).due("of 0 8", 100 + of0[i]);
        }
    }

    private static void nearOfNone() {
        sentence("near: how far (in numbers) who BY is is from him (BY NONE: 0); minute.");
        Trial x = Trial.full();
        x.fine(0, "stops near;", 1);
        x.due("of 5 8", 0).due("act 0 13 0", 1).due("of 0 8", 13).due("act 0 0 13", 1).due("of 13 8", 13);
        x.due("act 0 0 1", 1).due("of 1 8", 1).due("act 0 2 1", 1).due("of 1 8", 1).due("act 0 5 1", 1).due("of 1 8", 4);
        x.due("set 1 1 0", 1).due("of 1 8", 0);
    }
}
