import java.lang.reflect.InvocationTargetException;
import java.lang.reflect.Method;
import java.lang.reflect.Modifier;
import java.util.ArrayList;
import java.util.HashMap;
import java.util.List;
import java.util.Map;

/**
 * A lane under test. A call is written as its name and its numbers ("act 0 1 2"; true is 1). All calls are
 * remembered, so that the same lane can be made again, to see whether a call left everything as it was.
 */
final class Trial {
    /** What an object answers behind so many calls is free. */
    private static final int MOST_CALLS = 512;
    private static final Map<String, Method> FACE = face();
    private static final Map<String, int[]> ARGUMENTS = new HashMap<>();
    private static final List<String> QUESTIONS = questions();
    private static final List<List<String>> CHAINS = chains();

    private final List<String> told = new ArrayList<>();
    private final HiccupLane lane = new HiccupLane();

    static Trial lane(int... nerves) {
        Trial x = new Trial();
        for (int i = 0; i < nerves.length; i++) {
            x.due("person " + nerves[i], i);
        }
        return x;
    }

    /** A lane with something of everything: what can be undone, an image, a fault, a tape that would be a law. */
    static Trial rich() {
        Trial x = lane(4, 2, 0, 9, 6);
        x.fine(0, "stops 0 when minute<40;hics 3+near+2*named when nerve<5;passes strong-1;", 3);
        x.fine(1, "at 0 person 0 names 1;at 2 person 3 names 4;at 7 person 4 names 2;", 3);
        x.fine(2, "at 1 fright 1;at 2 glass 4 0;at 8 sugar 0;at 9 breath 2 1;", 4);
        x.fine(3, "person 1 says 4 3 0;person 4 says 0 1;", 2);
        x.tellRows();
        x.due("state 12345", 0);
        x.due("image 1", 1);
        x.due("state 777", 12345);
        x.due("act 0 2 3", 1);
        x.due("minutes 2", 0);
        x.due("act 0 1 0", 1);
        x.due("act 3 0 0", 1);
        x.due("act 1 3 0", 1);
        x.due("look 10", 6);
        x.faulty(0, "hics", 1, 4);
        x.feed(0, "hics 7;stops 8;");
        return x;
    }

    private void tellRows() {
        for (String call : new String[] {"breath 3", "breath -5", "breath 4", "call 2 9 5", "call 9 12 3", "way 0 1 3",
            "way 1 2 2", "term 0 -6", "term 0 1", "term 1 2", "kin 3", "kin 3", "kin 0", "step 2", "step 7", "heap 3", "heap 5"}) {
            ask(call);
        }
    }

    /** A lane in which nothing more has place: persons, texts, rows, the book, the tape. */
    static Trial full() {
        Trial x = lane(0, 1, 2, 3, 4, 5, 6, 7, 8, 9, 0, 1, 2, 3);
        x.fine(0, "hics 1;".repeat(15) + "stops 0;", 16);
        x.fine(1, "at99person0names1;".repeat(16), 16);
        x.fine(2, "at99sugar0;".repeat(16), 16);
        x.fine(3, "person0says1;".repeat(16), 16);
        for (int i = 0; i < 14; i++) {
            x.due("set 1 " + i + " " + (20 + i), 1);
            x.due("way " + i % 6 + " " + (i + 1) % 6 + " " + (i + 1), i + 1);
        }
        for (int i = 0; i < 16; i++) {
            x.due("breath " + (i * 7 % 23 - 9), i + 1);
        }
        for (int i = 0; i < 10; i++) {
            x.due("call " + i + " " + (i + 3) + " " + (i + 1), i + 1);
        }
        for (int i = 0; i < 12; i++) {
            x.due("term " + i % 2 + " " + (i - 5), i / 2 + 1);
        }
        for (int i = 0; i < 8; i++) {
            x.due("step " + (5 * i + 1), i + 1);
        }
        for (int i = 0; i < 6; i++) {
            x.due("kin " + (7 - i), i + 1);
        }
        for (int i = 0; i < 4; i++) {
            x.due("heap " + (i + 7), i + 1);
        }
        x.due("minutes 11", 0);
        x.due("look 4", 150);
        x.feed(0, "hics 5;" + " ".repeat(393));
        return x;
    }

    long ask(String call) {
        told.add(call);
        if (told.size() > MOST_CALLS) {
            Due.fails("the test asks one object more than " + MOST_CALLS + " times");
        }
        return answer(lane, call);
    }

    Trial due(String call, long want) {
        Due.due(call, ask(call), want);
        return this;
    }

    /** The call answers so, and leaves all that can be seen, now and later, as it would be without it. */
    void leaves(String call, long want) {
        List<String> with = new ArrayList<>(told);
        with.add(call);
        compare(call, with, told, true);
        due(call, want);
    }

    /** All that can be seen of this lane, now and later, is as of the other one. */
    void isAs(String what, Trial other) {
        compare(what, told, other.told, true);
    }

    /** The same lane, made again. */
    Trial again() {
        Trial x = new Trial();
        for (String call : told) {
            x.ask(call);
        }
        return x;
    }

    void line(int i, int minute, int what, int who, int much) {
        due("book " + i + " 0", minute);
        due("book " + i + " 1", what);
        due("book " + i + " 2", who);
        due("book " + i + " 3", much);
    }

    /** The tape has the text alone then; answers k. */
    int feed(int k, String text) {
        due("end 0", 1);
        int[] n = Due.numbers(text);
        for (int i = 0; i < n.length; i += 5) {
            due("feed " + n[i] + " " + n[i + 1] + " " + n[i + 2] + " " + n[i + 3] + " " + n[i + 4], i * 4 + 20);
        }
        due("end " + text.length(), 1);
        return k;
    }

    Trial fine(int k, String text, int lines) {
        Due.due("text(" + k + ") " + text, ask("text " + feed(k, text)), lines);
        due("fault 0", 0);
        due("fault 1", -1);
        return this;
    }

    /** The text has that fault, and but for the tape (which is empty) and the fault it leaves all as it was. */
    void faulty(int k, String text, int fault, int place) {
        feed(k, text);
        List<String> without = new ArrayList<>(told);
        without.add("end 0");
        Due.due("text(" + k + ") " + text, ask("text " + k), -1);
        compare("text(" + k + ") " + text, told, without, false);
        due("fault 0", fault);
        due("fault 1", place);
    }

    private static void compare(String call, List<String> with, List<String> without, boolean hasFault) {
        List<String> asked = new ArrayList<>();
        List<Long> one = seen(with, hasFault, asked);
        List<Long> other = seen(without, hasFault, null);
        for (int i = 0; i < one.size(); i++) {
            if (!one.get(i).equals(other.get(i))) {
                Due.fails("behind " + call + " " + asked.get(i) + " answered " + one.get(i) + ", without it " + other.get(i));
                return;
            }
        }
    }

    /** All that can be seen of the lane that comes of these calls; asked takes what was asked for it. */
    private static List<Long> seen(List<String> calls, boolean hasFault, List<String> asked) {
        List<Long> seen = new ArrayList<>();
        List<String> plain = new ArrayList<>(QUESTIONS);
        if (hasFault) {
            plain.add("fault 0");
            plain.add("fault 1");
        }
        // As many at a time for both that are compared, though one of them has a call more.
        int most = MOST_CALLS - calls.size() / 16 * 16 - 16;
        for (int i = 0; i < plain.size(); i += most) {
            askAll(calls, plain.subList(i, Math.min(plain.size(), i + most)), seen, asked);
        }
        for (List<String> chain : CHAINS) {
            askAll(calls, chain, seen, asked);
        }
        return seen;
    }

    private static void askAll(List<String> calls, List<String> questions, List<Long> seen, List<String> asked) {
        HiccupLane x = new HiccupLane();
        for (String call : calls) {
            answer(x, call);
        }
        if (calls.size() + questions.size() > MOST_CALLS) {
            Due.fails("the test asks one object " + (calls.size() + questions.size()) + " times");
        }
        for (String question : questions) {
            seen.add(answer(x, question));
            if (asked != null) {
                asked.add(question + (questions.get(0).equals(question) ? "" : " (behind " + questions.get(0) + ")"));
            }
        }
    }

    private static List<String> questions() {
        List<String> all = new ArrayList<>();
        addRange(all, "look ", 0, 10, "");
        addPersons(all, 0, 10);
        addPersons(all, 20, 33);
        addRange(all, "back ", 0, 13, "");
        for (int what = 0; what < 4; what++) {
            addRange(all, "book ", 0, 149, " " + what);
            addRange(all, "goes ", 1, 3, " " + what);
            all.add("goes 60 " + what);
        }
        all.add("peace");
        addThought(all);
        return all;
    }

    private static void addThought(List<String> all) {
        addRange(all, "held ", 0, 1, "");
        addRange(all, "calls ", 0, 3, "");
        addRange(all, "product ", 0, 1, "");
        addRange(all, "product ", 10, 20, "");
        for (int what = 0; what < 3; what++) {
            addRange(all, "least ", 0, 15, " " + what);
        }
        for (int a = 0; a < 6; a++) {
            for (int b = 0; b < 6; b++) {
                addRange(all, "gossip " + a + " " + b + " ", 0, 1, "");
            }
        }
        for (int which = 0; which < 2; which++) {
            addRange(all, "terms " + which + " ", -2, 2, "");
            addRange(all, "stair 40 6 ", 0, 1, "");
            addRange(all, "stair 20 2 ", 0, 1, "");
        }
        for (int v = 0; v < 8; v++) {
            all.add("tree " + v + " 0 0");
            addRange(all, "tree " + v + " ", 0, 7, " 1");
        }
        all.add("game");
    }

    private static void addPersons(List<String> all, int from, int to) {
        for (int p = 0; p < 14; p++) {
            addRange(all, "of " + p + " ", from, to, "");
        }
    }

    private static void addRange(List<String> all, String ahead, int from, int to, String behind) {
        for (int i = from; i <= to; i++) {
            all.add(ahead + i + behind);
        }
    }

    /** Rows of calls that change what they are asked of, each for a lane of its own. */
    private static List<List<String>> chains() {
        List<List<String>> all = new ArrayList<>();
        List<String> tape = new ArrayList<>();
        for (int n = 400; n > 380; n--) {
            tape.add("end " + n);
        }
        tape.add("feed 0 0 0 0 0");
        all.add(tape);
        for (int k = 0; k < 4; k++) {
            List<String> text = new ArrayList<>(List.of("text " + k, "fault 0", "fault 1"));
            addRange(text, "look ", 6, 10, "");
            addPersons(text, 7, 10);
            addRange(text, "goes 60 ", 0, 3, "");
            all.add(text);
        }
        List<String> undos = new ArrayList<>();
        for (int i = 0; i < 7; i++) {
            undos.add("undo");
            List<String> back = new ArrayList<>(undos);
            addRange(back, "look ", 0, 10, "");
            addPersons(back, 0, 6);
            all.add(back);
        }
        List<String> image = new ArrayList<>(List.of("image 0"));
        addRange(image, "look ", 0, 10, "");
        addPersons(image, 0, 6);
        all.add(image);
        List<String> thought = new ArrayList<>(List.of("image 0"));
        addThought(thought);
        all.add(thought);
        all.add(List.of("breath 0", "call 0 1 1", "way 0 1 1", "term 0 1", "term 1 1", "kin 0", "step 1", "heap 0"));
        return all;
    }

    private static Map<String, Method> face() {
        Map<String, Method> face = new HashMap<>();
        for (Method m : HiccupLane.class.getDeclaredMethods()) {
            if (Modifier.isPublic(m.getModifiers())) {
                face.put(m.getName(), m);
            }
        }
        return face;
    }

    private static long answer(HiccupLane x, String call) {
        int[] numbers = ARGUMENTS.computeIfAbsent(call, Trial::argumentsOf);
        Method m = FACE.get(nameOf(call));
        Object[] arguments = new Object[numbers.length];
        for (int i = 0; i < numbers.length; i++) {
            arguments[i] = m.getParameterTypes()[i] == boolean.class ? (Object) (numbers[i] != 0) : (Object) numbers[i];
        }
        try {
            Object answer = m.invoke(x, arguments);
            return answer instanceof Boolean ? ((Boolean) answer ? 1 : 0) : (Integer) answer;
        } catch (IllegalAccessException | InvocationTargetException e) {
            Due.fails(call + " ends with " + e.getCause());
            return Long.MIN_VALUE;
        }
    }

    private static String nameOf(String call) {
        return call.indexOf(' ') < 0 ? call : call.substring(0, call.indexOf(' '));
    }

    private static int[] argumentsOf(String call) {
        String[] words = call.split(" ");
        int[] numbers = new int[words.length - 1];
        for (int i = 0; i < numbers.length; i++) {
            numbers[i] = Integer.parseInt(words[i + 1]);
        }
        return numbers;
    }
}
