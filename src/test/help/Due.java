import java.nio.file.Files;
import java.nio.file.Path;

/** What the tests share: what is due is compared with what was answered, and what differs is counted and printed. */
abstract class Due {
    private static final int MOST_PRINTED = 50;

    static String run = "";
    private static int wrong = 0;
    private static int sentences = 0;
    private static String document = "";

    /** The words of the document that are tested from here on: they must stand there to the letter. */
    static void sentence(String... words) {
        run = words[0];
        if (document.isEmpty()) {
            document = flat(read("../shared/DOC.md"));
        }
        for (String one : words) {
            sentences++;
            holds("the document has these words: " + one, document.contains(flat(one)));
        }
    }

    static String read(String file) {
        try {
            return Files.readString(Path.of(file));
        } catch (java.io.IOException e) {
            return "";
        }
    }

    private static String flat(String text) {
        return text.replaceAll("\\s+", " ");
    }

    static void due(String call, long got, long want) {
        if (got != want) {
            fails(call + " answered " + got + ", due is " + want);
        }
    }

    static void due(String call, boolean got, boolean want) {
        due(call, got ? 1 : 0, want ? 1 : 0);
    }

    static void holds(String what, boolean holds) {
        if (!holds) {
            fails("does not hold: " + what);
        }
    }

    static void fails(String what) {
        wrong++;
        if (wrong <= MOST_PRINTED) {
            System.out.println(run.isEmpty() ? what : run + ": " + what);
        }
    }

    /** Ends the test's program, with exit code 1 if an answer was not as due. */
    static void end(String what) {
        String tested = sentences == 0 ? "" : " (" + sentences + " sentences)";
        System.out.println(wrong == 0 ? what + " as due" + tested : what + ": " + wrong + " answers not as due");
        if (wrong != 0) {
            System.exit(1);
        }
    }

    /** Feeds a text by twenties, cuts what stands behind it, and has it taken. */
    static int tell(HiccupLane x, int k, String text) {
        int[] numbers = numbers(text);
        for (int i = 0; i < numbers.length; i += 5) {
            due("feed", x.feed(numbers[i], numbers[i + 1], numbers[i + 2], numbers[i + 3], numbers[i + 4]), i * 4 + 20);
        }
        due("end", x.end(text.length()), true);
        return x.text(k);
    }

    /** A text's bytes, four in a number, filled up to whole feeds. */
    static int[] numbers(String text) {
        int[] numbers = new int[(text.length() + 19) / 20 * 5];
        for (int i = 0; i < text.length(); i++) {
            numbers[i / 4] |= (text.charAt(i) & 255) << 24 - i % 4 * 8;
        }
        return numbers;
    }
}
