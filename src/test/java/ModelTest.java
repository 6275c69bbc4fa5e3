import java.util.ArrayList;
import java.util.Arrays;
import java.util.HashMap;
import java.util.List;
import java.util.Map;
import java.util.Random;
import java.util.regex.Matcher;
import java.util.regex.Pattern;

/**
 * Runs of random calls on the class and on a second, plain telling of the document (promises 1 to 15, 38 to 40),
 * which must answer alike. What differs is printed with the run's number, from which it can be run again.
 */
public final class ModelTest extends Due {
    private static final int RUNS = 3000;
    private static final int MOST_CALLS = 512;
    /** So that a run leaves calls for all that is asked behind it. */
    private static final int MOST_TOLD = 400;

    /** One who lives in the lane. */
    private static final class Dweller implements Cloneable {
        int nerve;
        int hiccups;
        int by = -1;
        int named;
        int found;
        int frights;
        List<Integer> tried = new ArrayList<>();

        Dweller copy() {
            Dweller d = new Dweller();
            d.nerve = nerve;
            d.hiccups = hiccups;
            d.by = by;
            d.named = named;
            d.found = found;
            d.frights = frights;
            d.tried = new ArrayList<>(tried);
            return d;
        }
    }

    /** What a minute changes. */
    private static final class Scene {
        List<Dweller> all = new ArrayList<>();
        List<int[]> book = new ArrayList<>();
        int calm;
        int minute;
        int draws;
        boolean thought;

        Scene copy() {
            Scene s = new Scene();
            for (Dweller d : all) {
                s.all.add(d.copy());
            }
            s.book = new ArrayList<>(book);
            s.calm = calm;
            s.minute = minute;
            s.draws = draws;
            return s;
        }

        void write(int what, int who, int much) {
            if (!thought && book.size() < 150) {
                book.add(new int[] {minute, what, who, much});
            }
        }

        void cleanse() {
            for (Dweller d : all) {
                if (d.hiccups == 0) {
                    d.by = -1;
                    d.tried.clear();
                }
            }
        }
    }

    private interface Part {
        int value(Map<String, Integer> facts);
    }

    private static final class LawLine {
        String word;
        Part worth;
        Part when;
    }

    private static final class Fault extends RuntimeException {
        final int kind;
        final int place;

        Fault(int kind, int place) {
            this.kind = kind;
            this.place = place;
        }
    }

    private static final class Token {
        final String text;
        final int place;

        Token(String text, int place) {
            this.text = text;
            this.place = place;
        }

        boolean isNumber() {
            return text.matches("[0-9]{1,4}");
        }
    }

    private static final class Model {
        Scene scene = new Scene();
        List<LawLine> law = new ArrayList<>();
        List<String[]> talk = new ArrayList<>();
        List<String[]> cures = new ArrayList<>();
        List<List<Integer>> rows = new ArrayList<>();
        List<Scene> past = new ArrayList<>();
        Object[] image;
        String tape = "";
        int fault = 0;
        int place = -1;

        private List<Token> tokens;
        private int at;

        // ---- texts

        int text(int k) {
            String told = tape;
            tape = "";
            fault = 0;
            place = -1;
            if (k < 0 || k > 3) {
                return -1;
            }
            tokens = new ArrayList<>();
            Matcher m = Pattern.compile("[a-zA-Z]+|[0-9]+|[^ \n]", Pattern.DOTALL).matcher(told);
            while (m.find()) {
                tokens.add(new Token(m.group(), m.start()));
            }
            tokens.add(new Token("", told.length()));
            at = 0;
            try {
                switch (k) {
                    case 0:
                        law = readLaw();
                        return law.size();
                    case 1:
                        talk = readPlan(false);
                        past.clear();
                        return talk.size();
                    case 2:
                        cures = readPlan(true);
                        past.clear();
                        return cures.size();
                    default:
                        rows = readRows();
                        return rows.size();
                }
            } catch (Fault f) {
                fault = f.kind;
                place = f.place;
                return -1;
            }
        }

        private Token here() {
            return tokens.get(at);
        }

        private boolean sees(String... texts) {
            return Arrays.asList(texts).contains(here().text);
        }

        private Fault bad(int kind) {
            return new Fault(kind, here().place);
        }

        private String take(String... texts) {
            if (!sees(texts)) {
                throw bad(1);
            }
            return tokens.get(at++).text;
        }

        private int takeNumber(int least, int most) {
            if (!here().isNumber()) {
                throw bad(1);
            }
            int n = Integer.parseInt(here().text);
            if (n < least || n > most) {
                throw bad(2);
            }
            at++;
            return n;
        }

        private int takePerson(int other) {
            int n = takeNumber(0, scene.all.size() - 1);
            if (n == other) {
                at--;
                throw bad(2);
            }
            return n;
        }

        private void begin(int lines, String... words) {
            if (!sees(words)) {
                throw bad(1);
            }
            if (lines == 16) {
                throw bad(3);
            }
        }

        private List<LawLine> readLaw() {
            List<LawLine> lines = new ArrayList<>();
            while (!sees("")) {
                begin(lines.size(), "hics", "stops", "passes");
                LawLine line = new LawLine();
                line.word = take("hics", "stops", "passes");
                line.worth = sum();
                if (sees("when")) {
                    at++;
                    line.when = or(0);
                }
                take(";");
                lines.add(line);
            }
            return lines;
        }

        private Part or(int open) {
            Part left = and(open);
            while (sees("or")) {
                at++;
                Part a = left;
                Part b = and(open);
                left = f -> a.value(f) != 0 || b.value(f) != 0 ? 1 : 0;
            }
            return left;
        }

        private Part and(int open) {
            Part left = claim(open);
            while (sees("and")) {
                at++;
                Part a = left;
                Part b = claim(open);
                left = f -> a.value(f) != 0 && b.value(f) != 0 ? 1 : 0;
            }
            return left;
        }

        private Part claim(int open) {
            if (sees("not", "(")) {
                if (open == 8) {
                    throw bad(3);
                }
                if (take("not", "(").equals("not")) {
                    Part c = claim(open + 1);
                    return f -> 1 - c.value(f);
                }
                Part b = or(open + 1);
                take(")");
                return b;
            }
            Part a = sum();
            String sign = take("<", "=", ">");
            Part b = sum();
            return f -> {
                int order = Integer.compare(a.value(f), b.value(f));
                return order == "<=>".indexOf(sign) - 1 ? 1 : 0;
            };
        }

        private Part sum() {
            Part left = product();
            while (sees("+", "-")) {
                boolean plus = take("+", "-").equals("+");
                Part a = left;
                Part b = product();
                left = f -> plus ? a.value(f) + b.value(f) : a.value(f) - b.value(f);
            }
            return left;
        }

        private Part product() {
            Part left = unit();
            while (sees("*", "/")) {
                boolean times = take("*", "/").equals("*");
                Part a = left;
                if (times) {
                    Part b = unit();
                    left = f -> a.value(f) * b.value(f);
                } else {
                    int n = takeNumber(1, 9999);
                    left = f -> a.value(f) / n;
                }
            }
            return left;
        }

        private Part unit() {
            if (here().isNumber()) {
                int n = takeNumber(0, 9999);
                return f -> n;
            }
            String fact = take("nerve", "strong", "tried", "named", "found", "frights", "near", "minute");
            return f -> f.get(fact);
        }

        private List<String[]> readPlan(boolean isCures) {
            List<String[]> lines = new ArrayList<>();
            while (!sees("")) {
                begin(lines.size(), "at");
                at++;
                String minute = "" + takeNumber(0, 999);
                if (!isCures) {
                    take("person");
                    int who = takePerson(-1);
                    take("names");
                    lines.add(new String[] {minute, "names", "" + who, "" + takePerson(who)});
                } else {
                    String what = take("fright", "breath", "glass", "sugar");
                    int who = takePerson(-1);
                    int second = what.equals("breath") ? takeNumber(1, 99) : what.equals("glass") ? takePerson(who) : 0;
                    lines.add(new String[] {minute, what, "" + who, "" + second});
                }
                take(";");
            }
            return lines;
        }

        private List<List<Integer>> readRows() {
            List<List<Integer>> lines = new ArrayList<>();
            while (!sees("")) {
                begin(lines.size(), "person");
                at++;
                List<Integer> line = new ArrayList<>();
                int who = takePerson(-1);
                line.add(who);
                take("says");
                do {
                    line.add(takePerson(who));
                    if (line.size() == 8) {
                        at--;
                        throw bad(3);
                    }
                } while (!sees(";") && here().text.matches("[0-9]+"));
                take(";");
                lines.add(line);
            }
            return lines;
        }

        // ---- what the law tells

        int ask(Scene s, int p, String word) {
            Dweller d = s.all.get(p);
            Map<String, Integer> facts = new HashMap<>();
            facts.put("nerve", d.nerve);
            facts.put("strong", d.hiccups);
            facts.put("tried", d.tried.size());
            facts.put("named", d.named);
            facts.put("found", d.found);
            facts.put("frights", d.frights);
            facts.put("near", d.by == -1 ? 0 : Math.abs(d.by - p));
            facts.put("minute", s.minute);
            int told = word.equals("hics") ? 20 - d.nerve : word.equals("stops") ? 50 + 20 * d.nerve : d.hiccups / 2;
            for (LawLine line : law) {
                if (line.word.equals(word) && (line.when == null || line.when.value(facts) != 0)) {
                    told = line.worth.value(facts);
                    break;
                }
            }
            int most = word.equals("stops") ? 1000 : 99;
            return Math.max(word.equals("hics") ? 1 : 0, Math.min(most, told));
        }

        List<Integer> order(int p) {
            List<Integer> order = new ArrayList<>();
            for (List<Integer> row : rows) {
                if (row.get(0) == p) {
                    order = new ArrayList<>(row.subList(1, row.size()));
                }
            }
            for (int i = 0; i < scene.all.size(); i++) {
                order.add(i);
            }
            List<Integer> once = new ArrayList<>();
            for (int name : order) {
                if (name != p && !once.contains(name)) {
                    once.add(name);
                }
            }
            return once;
        }

        int whom(Scene s, int p) {
            for (int name : order(p)) {
                if (!s.all.get(p).tried.contains(name)) {
                    return name;
                }
            }
            return -1;
        }

        // ---- what happens

        void name(Scene s, int who, int whom) {
            Dweller d = s.all.get(whom);
            d.named++;
            d.hiccups = Math.min(99, d.hiccups + ask(s, whom, "hics"));
            d.by = who;
            d.tried.clear();
            s.write(0, whom, d.hiccups);
        }

        void fright(Scene s, int who) {
            Dweller d = s.all.get(who);
            d.hiccups = d.hiccups / 2;
            d.frights++;
            s.write(5, who, d.hiccups);
            s.cleanse();
        }

        void glass(Scene s, int from, int to) {
            Dweller a = s.all.get(from);
            Dweller b = s.all.get(to);
            if (a.hiccups == 0) {
                return;
            }
            b.hiccups = Math.min(99, a.hiccups + b.hiccups);
            b.by = from;
            b.tried.clear();
            a.hiccups = 0;
            s.write(4, from, to);
            s.cleanse();
        }

        boolean say(Scene s, int p) {
            Dweller d = s.all.get(p);
            int name = whom(s, p);
            boolean found = false;
            if (name == -1) {
                d.hiccups--;
                s.write(6, p, d.hiccups);
            } else if (name == d.by) {
                found = true;
                Dweller other = s.all.get(name);
                other.found++;
                int passes = ask(s, p, "passes");
                other.hiccups = Math.min(99, other.hiccups + passes);
                if (passes > 0) {
                    other.by = p;
                    other.tried.clear();
                }
                d.hiccups = 0;
                s.write(3, p, name);
            } else {
                d.tried.add(name);
                s.write(2, p, name);
            }
            s.cleanse();
            return found;
        }

        int minute(Scene s) {
            int found = 0;
            for (String[] line : talk) {
                if (Integer.parseInt(line[0]) == s.minute) {
                    name(s, Integer.parseInt(line[2]), Integer.parseInt(line[3]));
                }
            }
            for (String[] line : cures) {
                if (Integer.parseInt(line[0]) != s.minute) {
                    continue;
                }
                int who = Integer.parseInt(line[2]);
                int second = Integer.parseInt(line[3]);
                Dweller d = s.all.get(who);
                if (line[1].equals("fright")) {
                    fright(s, who);
                } else if (line[1].equals("breath")) {
                    d.hiccups = Math.max(0, d.hiccups - second);
                } else if (line[1].equals("glass")) {
                    glass(s, who, second);
                } else {
                    d.nerve = Math.min(9, d.nerve + 1);
                }
                s.cleanse();
            }
            for (int p = 0; p < s.all.size(); p++) {
                Dweller d = s.all.get(p);
                if (d.hiccups == 0) {
                    continue;
                }
                int stops = ask(s, p, "stops");
                boolean over;
                if (s.thought) {
                    over = stops >= 500;
                } else if (stops == 0) {
                    over = false;
                } else {
                    s.draws = (int) (s.draws * 1664525L + 1013904223L);
                    over = Long.remainderUnsigned((s.draws & 0xffffffffL) >> 8, 1000) < stops;
                }
                if (over) {
                    s.write(1, p, d.hiccups);
                    d.hiccups = 0;
                    s.cleanse();
                } else if (say(s, p)) {
                    found++;
                }
            }
            s.calm += sumOf(s, 1) == 0 ? 1 : 0;
            s.minute++;
            return found;
        }

        static int sumOf(Scene s, int what) {
            int sum = 0;
            for (Dweller d : s.all) {
                sum += what == 1 ? d.hiccups : what == 5 ? d.found : d.named;
            }
            return sum;
        }

        Scene inThought() {
            Scene s = scene.copy();
            s.thought = true;
            return s;
        }

        void keep() {
            past.add(scene.copy());
            if (past.size() > 6) {
                past.remove(0);
            }
        }

        boolean is(int p) {
            return p >= 0 && p < scene.all.size();
        }

        // ---- the face

        long answer(int[] c) {
            switch (c[0]) {
                case 0: {
                    int before = scene.draws;
                    scene.draws = c[1];
                    past.clear();
                    return before;
                }
                case 1: {
                    if (c[1] < 0 || c[1] > 9 || scene.all.size() == 14) {
                        return -1;
                    }
                    Dweller d = new Dweller();
                    d.nerve = c[1];
                    scene.all.add(d);
                    past.clear();
                    return scene.all.size() - 1;
                }
                case 2:
                    return set(c[1], c[2], c[3]);
                case 3:
                    return act(c[1], c[2], c[3]);
                case 4: {
                    if (c[1] < 1 || c[1] > 60 || scene.minute + c[1] > 9999) {
                        return -1;
                    }
                    int found = 0;
                    for (int i = 0; i < c[1]; i++) {
                        keep();
                        found += minute(scene);
                    }
                    return found;
                }
                case 5:
                    return feed(c);
                case 6: {
                    if (c[1] < 0 || c[1] > tape.length()) {
                        return 0;
                    }
                    tape = tape.substring(0, c[1]);
                    return 1;
                }
                case 7:
                    return text(c[1]);
                case 8:
                    return c[1] == 0 ? fault : c[1] == 1 ? place : -1;
                case 9:
                    return of(c[1], c[2]);
                case 10:
                    return c[1] < 0 || c[1] >= scene.book.size() || c[2] < 0 || c[2] > 3 ? -1 : scene.book.get(c[1])[c[2]];
                case 11: {
                    if (c[1] < 1 || c[1] > 60 || c[2] < 0 || c[2] > 3) {
                        return -1;
                    }
                    Scene s = inThought();
                    for (int i = 0; i < c[1]; i++) {
                        minute(s);
                    }
                    return c[2] == 3 ? s.calm : sumOf(s, new int[] {1, 5, 4}[c[2]]);
                }
                case 12: {
                    Scene s = inThought();
                    for (int i = 0; i <= 60; i++) {
                        if (sumOf(s, 1) == 0) {
                            return i;
                        }
                        minute(s);
                    }
                    return -1;
                }
                case 13:
                    return back(c[1]);
                case 14: {
                    if (past.isEmpty()) {
                        return 0;
                    }
                    scene = past.remove(past.size() - 1);
                    return 1;
                }
                case 15:
                    return image(c[1] == 1);
                default:
                    return look(c[1]);
            }
        }

        private long set(int what, int who, int v) {
            if (!is(who) || v < 0 || what < 0 || what > 1 || v > (what == 0 ? 9 : 99)) {
                return 0;
            }
            if (what == 0) {
                scene.all.get(who).nerve = v;
            } else {
                scene.all.get(who).hiccups = v;
            }
            scene.cleanse();
            past.clear();
            return 1;
        }

        private long act(int what, int who, int v) {
            boolean other = is(v) && v != who;
            boolean has = is(who) && scene.all.get(who).hiccups > 0;
            boolean can = what == 0 ? is(who) && other : what == 1 || what == 3 ? has : what == 2 && has && other;
            if (!can) {
                return 0;
            }
            keep();
            if (what == 0) {
                name(scene, who, v);
            } else if (what == 1) {
                fright(scene, who);
            } else if (what == 2) {
                glass(scene, who, v);
            } else {
                say(scene, who);
            }
            return 1;
        }

        private long feed(int[] c) {
            if (tape.length() > 380) {
                return -1;
            }
            StringBuilder b = new StringBuilder(tape);
            for (int i = 1; i <= 5; i++) {
                for (int shift = 24; shift >= 0; shift -= 8) {
                    b.append((char) (c[i] >> shift & 255));
                }
            }
            tape = b.toString();
            return tape.length();
        }

        private long of(int p, int what) {
            if (!is(p)) {
                return -2;
            }
            Dweller d = scene.all.get(p);
            int tried = 0;
            for (int name : d.tried) {
                tried |= 1 << name;
            }
            int[] plain = {d.nerve, d.hiccups, d.by, tried, d.named, d.found, d.frights};
            if (what >= 0 && what < 7) {
                return plain[what];
            }
            if (what >= 7 && what <= 9) {
                return ask(scene, p, new String[] {"hics", "stops", "passes"}[what - 7]);
            }
            if (what == 10) {
                return whom(scene, p);
            }
            if (what < 20 || what > 33) {
                return -2;
            }
            List<Integer> order = order(p);
            return what - 20 < order.size() ? order.get(what - 20) : -1;
        }

        private long back(int p) {
            if (!is(p)) {
                return -1;
            }
            List<Integer> there = new ArrayList<>();
            int steps = 0;
            int now = p;
            while (!there.contains(now)) {
                there.add(now);
                now = scene.all.get(now).by;
                if (now == -1) {
                    return steps;
                }
                steps++;
            }
            return steps;
        }

        @SuppressWarnings("unchecked")
        private long image(boolean taken) {
            if (taken) {
                image = new Object[] {scene.copy(), law, talk, cures, rows};
                return 1;
            }
            if (image == null) {
                return 0;
            }
            scene = ((Scene) image[0]).copy();
            law = (List<LawLine>) image[1];
            talk = (List<String[]>) image[2];
            cures = (List<String[]>) image[3];
            rows = (List<List<Integer>>) image[4];
            past.clear();
            return 1;
        }

        private long look(int what) {
            int have = 0;
            for (int i = 0; i < scene.all.size(); i++) {
                have |= scene.all.get(i).hiccups > 0 ? 1 << i : 0;
            }
            int[] all = {scene.all.size(), have, scene.calm, scene.minute, scene.book.size(), scene.draws,
                law.size(), talk.size(), cures.size(), rows.size(), past.size()};
            return what < 0 || what > 10 ? -100000 : all[what];
        }
    }

    private static long ask(HiccupLane x, int[] c) {
        switch (c[0]) {
            case 0: return x.state(c[1]);
            case 1: return x.person(c[1]);
            case 2: return x.set(c[1], c[2], c[3]) ? 1 : 0;
            case 3: return x.act(c[1], c[2], c[3]) ? 1 : 0;
            case 4: return x.minutes(c[1]);
            case 5: return x.feed(c[1], c[2], c[3], c[4], c[5]);
            case 6: return x.end(c[1]) ? 1 : 0;
            case 7: return x.text(c[1]);
            case 8: return x.fault(c[1]);
            case 9: return x.of(c[1], c[2]);
            case 10: return x.book(c[1], c[2]);
            case 11: return x.goes(c[1], c[2]);
            case 12: return x.peace();
            case 13: return x.back(c[1]);
            case 14: return x.undo() ? 1 : 0;
            case 15: return x.image(c[1] == 1) ? 1 : 0;
            default: return x.look(c[1]);
        }
    }

    // ---- random texts

    private static String pick(Random r, String... all) {
        return all[r.nextInt(all.length)];
    }

    private static String number(Random r) {
        int kind = r.nextInt(12);
        return "" + (kind == 0 ? r.nextInt(10000) : kind < 4 ? r.nextInt(100) : r.nextInt(12));
    }

    private static String sum(Random r) {
        StringBuilder b = new StringBuilder();
        int n = 1 + r.nextInt(r.nextInt(3) + 1);
        for (int i = 0; i < n; i++) {
            b.append(i == 0 ? "" : pick(r, "+", "-", "*", "/"));
            boolean part = b.length() > 0 && b.charAt(b.length() - 1) == '/';
            b.append(part ? "" + (r.nextInt(15) == 0 ? 0 : 1 + r.nextInt(9))
                : r.nextInt(3) == 0 ? number(r)
                : pick(r, "nerve", "strong", "tried", "named", "found", "frights", "near", "minute"));
        }
        return b.toString();
    }

    private static String claim(Random r, int deep) {
        int kind = r.nextInt(deep > 9 ? 1 : 7);
        if (kind == 5) {
            return "(" + claim(r, deep + 1) + ")";
        }
        if (kind == 6) {
            return "not " + claim(r, deep + 1);
        }
        if (kind >= 3) {
            return claim(r, deep + 1) + pick(r, " and ", " or ") + claim(r, deep + 1);
        }
        return sum(r) + pick(r, "<", "=", ">") + sum(r);
    }

    private static String line(Random r, int k, int persons, int minute) {
        String a = "" + r.nextInt(r.nextInt(25) == 0 ? 20 : Math.max(1, persons));
        String b = "" + r.nextInt(r.nextInt(25) == 0 ? 20 : Math.max(1, persons));
        String at = "at " + (r.nextInt(40) == 0 ? r.nextInt(1100) : minute + r.nextInt(6)) + " ";
        switch (k) {
            case 0: {
                String word = pick(r, "hics", "stops", "stops", "passes");
                String worth = word.equals("stops") && r.nextInt(2) == 0 ? pick(r, "0", "1", "400", "500", "700") : sum(r);
                String bend = r.nextInt(40) == 0 ? "(".repeat(r.nextInt(10)) + "not ".repeat(r.nextInt(10)) + "1=1" : claim(r, 0);
                return word + " " + worth + (r.nextInt(2) == 0 ? "" : " when " + bend) + ";";
            }
            case 1:
                return at + "person " + a + " names " + b + ";";
            case 2:
                return at + pick(r, "fright " + a, "breath " + a + " " + (r.nextInt(20) == 0 ? 100 : 1 + r.nextInt(30)),
                    "glass " + a + " " + b, "sugar " + a) + ";";
            default: {
                StringBuilder s = new StringBuilder("person " + a + " says");
                int n = 1 + r.nextInt(r.nextInt(6) == 0 ? 8 : 4);
                for (int i = 0; i < n; i++) {
                    s.append(" ").append(r.nextInt(r.nextInt(40) == 0 ? 20 : Math.max(1, persons)));
                }
                return s.append(";").toString();
            }
        }
    }

    private static String text(Random r, int k, int persons, int minute) {
        StringBuilder b = new StringBuilder();
        int n = r.nextInt(12) == 0 ? 17 : r.nextInt(6);
        for (int i = 0; i < n; i++) {
            String line = line(r, k, persons, minute);
            if (b.length() + line.length() <= 400) {
                b.append(line).append(r.nextInt(4) == 0 && b.length() < 398 ? pick(r, " ", "\n") : "");
            }
        }
        if (r.nextInt(6) == 0 && b.length() > 0) {
            int at = r.nextInt(b.length());
            switch (r.nextInt(4)) {
                case 0: b.deleteCharAt(at); break;
                case 1: b.setCharAt(at, (char) r.nextInt(256)); break;
                case 2: b.setCharAt(at, pick(r, ";", "(", ")", "0", "7", " ", "<", "not", "/").charAt(0)); break;
                default: b.setLength(at); break;
            }
        }
        b.setLength(Math.min(400, b.length()));
        return b.toString();
    }

    private static List<int[]> telling(Random r, int persons, int minute) {
        int k = r.nextInt(4);
        String text = text(r, k, persons, minute);
        List<int[]> calls = new ArrayList<>();
        String padded = text + " ".repeat((20 - text.length() % 20) % 20);
        for (int i = 0; i < padded.length(); i += 20) {
            int[] c = {5, 0, 0, 0, 0, 0};
            for (int j = 0; j < 20; j++) {
                c[1 + j / 4] = c[1 + j / 4] << 8 | padded.charAt(i + j);
            }
            calls.add(c);
        }
        calls.add(new int[] {6, text.length()});
        calls.add(new int[] {7, k});
        calls.add(new int[] {8, 0});
        calls.add(new int[] {8, 1});
        return calls;
    }

    private static int[] single(Random r, int persons) {
        int p = r.nextInt(30) == 0 ? r.nextInt(20) - 3 : r.nextInt(Math.max(1, persons));
        int q = r.nextInt(30) == 0 ? r.nextInt(20) - 3 : r.nextInt(Math.max(1, persons));
        switch (r.nextInt(24)) {
            case 0: return new int[] {0, r.nextInt()};
            case 1: return new int[] {1, r.nextInt(13) - 1};
            case 2: return new int[] {2, r.nextInt(8) == 0 ? r.nextInt(5) - 1 : 1, p, r.nextInt(r.nextInt(2) == 0 ? 12 : 110) - 1};
            case 3: case 4: case 5: return new int[] {3, 0, p, q};
            case 6: return new int[] {3, r.nextInt(6) - 1, p, q};
            case 7: return new int[] {3, 2, p, q};
            case 8: case 9: return new int[] {3, 3, p, q};
            case 10: case 11: return new int[] {4, 1 + r.nextInt(3)};
            case 12: return new int[] {4, r.nextInt(12) == 0 ? r.nextInt(70) - 3 : 1};
            case 13: return new int[] {8, r.nextInt(4) - 1};
            case 14: return new int[] {9, p, r.nextInt(12) - 1};
            case 15: return new int[] {9, p, 19 + r.nextInt(16)};
            case 16: return new int[] {10, r.nextInt(40), r.nextInt(5)};
            case 17: return new int[] {11, r.nextInt(12) == 0 ? r.nextInt(70) - 3 : 1 + r.nextInt(8), r.nextInt(5)};
            case 18: return new int[] {12};
            case 19: return new int[] {13, p};
            case 20: case 21: return new int[] {14};
            case 22: return new int[] {15, r.nextInt(2)};
            default: return new int[] {16, r.nextInt(13) - 1};
        }
    }

    /** All that can be seen of the lane that comes of these calls, asked of as many objects as it takes. */
    private static boolean isAlike(List<int[]> told, Model m, String run) {
        List<int[]> calls = new ArrayList<>();
        for (int i = 0; i <= 10; i++) {
            calls.add(new int[] {16, i});
        }
        for (int p = 0; p < m.scene.all.size(); p++) {
            for (int what = 0; what <= 33; what++) {
                calls.add(new int[] {9, p, what});
            }
            calls.add(new int[] {13, p});
        }
        for (int i = 0; i <= m.scene.book.size(); i++) {
            for (int what = 0; what < 4; what++) {
                calls.add(new int[] {10, i, what});
            }
        }
        int most = MOST_CALLS - told.size();
        HiccupLane x = null;
        for (int i = 0; i < calls.size(); i++) {
            x = i % most == 0 ? again(told) : x;
            if (!isAlike(x, m, calls.get(i), run)) {
                return false;
            }
        }
        return true;
    }

    private static HiccupLane again(List<int[]> told) {
        HiccupLane x = new HiccupLane();
        for (int[] c : told) {
            ask(x, c);
        }
        return x;
    }

    private static boolean isAlike(HiccupLane x, Model m, int[] c, String run) {
        long want = m.answer(c);
        long got = ask(x, c);
        if (got != want) {
            fails(run + ": " + Arrays.toString(c) + " answered " + got + ", due is " + want);
        }
        return got == want;
    }

    public static void main(String[] args) {
        int wrong = 0;
        int[] faults = new int[4];
        int[] lines = new int[7];
        for (int i = 0; i < RUNS && wrong < 10; i++) {
            Random r = new Random(i);
            HiccupLane x = new HiccupLane();
            Model m = new Model();
            boolean alike = true;
            List<int[]> told = new ArrayList<>();
            int persons = r.nextInt(6) + (r.nextInt(5) == 0 ? 9 : 0);
            for (int p = 0; p < persons && alike; p++) {
                told.add(new int[] {1, r.nextInt(10)});
                alike = isAlike(x, m, told.get(p), "run " + i);
            }
            for (int step = 0; step < 120 && told.size() < MOST_TOLD && alike; step++) {
                List<int[]> calls = r.nextInt(9) == 0 ? telling(r, m.scene.all.size(), m.scene.minute)
                    : List.of(single(r, m.scene.all.size()));
                for (int[] c : calls) {
                    told.add(c);
                    alike = alike && isAlike(x, m, c, "run " + i + " step " + step);
                }
                if (calls.size() > 1) {
                    faults[m.fault]++;
                }
                if (step % 10 == 9) {
                    alike = alike && isAlike(told, m, "run " + i + " step " + step);
                }
            }
            for (int[] line : m.scene.book) {
                lines[line[1]]++;
            }
            wrong += alike ? 0 : 1;
        }
        System.out.println("texts by fault " + Arrays.toString(faults) + ", lines by what " + Arrays.toString(lines));
        end("the runs");
    }
}
