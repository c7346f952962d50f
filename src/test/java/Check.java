import java.io.IOException;
import java.io.UncheckedIOException;
import java.nio.file.Files;
import java.nio.file.Path;

/** Counts answers that are not as due, told with the sentence they are of; every test program ends with finish(). */
final class Check {
    static final Class<ArrayIndexOutOfBoundsException> NO_SUCH = ArrayIndexOutOfBoundsException.class;
    static final Class<IllegalArgumentException> BAD_RULE = IllegalArgumentException.class;
    static final Class<IllegalStateException> NO_POINT = IllegalStateException.class;
    static final Class<UnsupportedOperationException> NO_ROOM = UnsupportedOperationException.class;

    interface Call {
        void run();
    }

    interface IndexCall {
        void run(int i);
    }

    private static final String DOCUMENT = read(Path.of("../shared/DOC.md"));

    private static String sentence = "";
    private static int sentences = 0;
    private static int checks = 0;
    private static int wrong = 0;

    private Check() {
    }

    /** The checks from here on are of these words of the document's Terms. */
    static void terms(String words) {
        begin("Terms", "## Terms ", words);
    }

    /** The checks from here on are of these words of a promise. */
    static void promise(int number, String words) {
        begin("Promise " + number, "## Promise " + number + ":", words);
    }

    /** The checks from here on are of these words in front of the document's Terms. */
    static void opening(String words) {
        begin("What it is", "## What it is ", words);
    }

    /** The words have to stand in the document, so that a document that has changed is seen. */
    private static void begin(String section, String heading, String words) {
        int start = DOCUMENT.indexOf(heading);
        int end = DOCUMENT.indexOf(" ## ", start + 1);
        int at = DOCUMENT.indexOf(words, Math.max(0, start));
        boolean stands = start >= 0 && at >= 0 && at + words.length() <= end;
        sentence = section + ", \"" + words + "\": ";
        sentences++;
        due("stands in the document", stands, true);
    }

    private static String read(Path file) {
        try {
            return Files.readString(file).replaceAll("\\s+", " ");
        } catch (IOException e) {
            throw new UncheckedIOException(e);
        }
    }

    static void due(String what, long got, long want) {
        checks++;
        if (got != want) {
            fail(what + " answered " + got + ", due is " + want);
        }
    }

    static void due(String what, boolean got, boolean want) {
        due(what, got ? 1 : 0, want ? 1 : 0);
    }

    static void throwing(String what, Class<? extends RuntimeException> want, Call call) {
        checks++;
        RuntimeException got = null;
        try {
            call.run();
        } catch (RuntimeException e) {
            got = e;
        }
        if (got == null || got.getClass() != want) {
            fail(what + " threw " + got + ", due is " + want.getName());
        } else if (thrownByTheMachine(got)) {
            fail(what + " was thrown by the machine: " + got);
        }
    }

    /** A call that counts from 0 refuses what lies on either side of its indexes, near and far. */
    static void noSuch(String what, int count, IndexCall call) {
        for (int i : new int[] {Integer.MIN_VALUE, -1, count, count + 1, Integer.MAX_VALUE}) {
            throwing(what + " " + i, NO_SUCH, () -> call.run(i));
        }
    }

    /** What the machine throws has its own text, or stands in the library's code, or has no place at all. */
    private static boolean thrownByTheMachine(RuntimeException e) {
        String text = String.valueOf(e.getMessage());
        StackTraceElement[] places = e.getStackTrace();
        return text.contains("out of bounds for ") || places.length == 0
                || !places[0].getClassName().matches("RasterCover(\\$.*)?");
    }

    private static void fail(String text) {
        wrong++;
        System.out.println(sentence + text);
    }

    static void finish() {
        System.out.println((sentences == 0 ? "" : sentences + " sentences, ") + checks + " checks, " + wrong + " wrong");
        if (wrong != 0) {
            System.exit(1);
        }
    }
}
