import java.util.List;
import java.util.Set;
import java.util.TreeSet;

/** Counts answers that are not as due, each under the sentence that asks for it; a test ends with finish(). */
final class Check {
    private static final Set<String> SENTENCES = new TreeSet<>();
    private static String sentence = "";
    private static int wrong = 0;
    private static int asked = 0;

    private Check() {
    }

    /** The answers behind this are due by this sentence of the document's "Terms". */
    static void terms(String words) {
        about("Terms", words);
    }

    /** The answers behind this are due by this sentence under a promise's heading. */
    static void promise(int number, String words) {
        about("Promise " + number, words);
    }

    /** The answers behind this are due by other words: of the face, or of LANGUAGE.md. */
    static void about(String heading, String words) {
        sentence = heading + " (" + words + "): ";
        SENTENCES.add(sentence);
    }

    static void same(String what, long got, long due) {
        same(what, Long.toString(got), Long.toString(due));
    }

    static void same(String what, String got, String due) {
        asked++;
        if (!got.equals(due) || sentence.isEmpty()) {
            wrong++;
            System.out.println(sentence + what + " answered \"" + got + "\", due is \"" + due + "\"");
        }
    }

    /** Only the first answer that differs is told: what follows mostly comes of it. */
    static void same(String what, List<String> got, List<String> due) {
        for (int i = 0; i < Math.min(got.size(), due.size()); i++) {
            if (!got.get(i).equals(due.get(i))) {
                same(what, got.get(i), due.get(i));
                return;
            }
        }
        same(what + ", how many", got.size(), due.size());
    }

    static void refuses(String what, Runnable call) {
        throwsExactly(what, IllegalArgumentException.class, call);
    }

    static void isFull(String what, Runnable call) {
        throwsExactly(what, IllegalStateException.class, call);
    }

    static void throwsExactly(String what, Class<?> due, Runnable call) {
        String got = "nothing";
        try {
            call.run();
        } catch (RuntimeException e) {
            got = e.getClass().getName();
        }
        same(what + " throws", got, due.getName());
    }

    static void finish() {
        System.out.println(asked - wrong + " of " + asked + " answers are as due, by " + SENTENCES.size() + " sentences");
        if (wrong != 0 || asked == 0) {
            System.exit(1);
        }
    }
}
