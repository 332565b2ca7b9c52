import java.io.IOException;
import java.lang.reflect.InvocationTargetException;
import java.lang.reflect.Method;
import java.util.ArrayList;
import java.util.List;
import java.util.Set;
import java.util.TreeSet;

/**
 * The document's sentences that name a boundary, each with rows of its own.
 * Calls are texts ("slot 12 0"), so that what is printed is what was called;
 * what was done before them is a text too ("machine 9 1 3, width 2").
 */
final class Edges {
    private static final String NOTHING_KEPT = "";
    private static final String BOTH_KEPT = "machine 15 1 5, width 2, image 0, machine 8 4 3, width 3, image 1, machine 12 1 3, width 5";
    private static final Set<String> CHANGING = Set.of("machine", "width", "image", "restore");
    private static final int[] REFUSAL_NUMBERS = {SlotStar.UNKNOWN, SlotStar.OUTSIDE, SlotStar.STATE, SlotStar.FULL, SlotStar.NO, SlotStar.NONE};

    private final Check check;
    private final Document document = new Document();
    private final int firstPromise;
    private final int lastPromise;
    private final Set<Integer> promises = new TreeSet<>();
    private final Set<String> answered = new TreeSet<>();
    private String sentence = "";
    private int rowsOfSentence = 1;

    Edges(String test, int firstPromise, int lastPromise) throws IOException {
        check = new Check(test);
        this.firstPromise = firstPromise;
        this.lastPromise = lastPromise;
    }

    /** The rows that follow are of these words; they stand in the document, under the promise or above all promises. */
    void sentence(int promise, String words) {
        closeSentence();
        sentence = "promise " + promise + ", \"" + words + "\": ";
        rowsOfSentence = 0;
        promises.add(promise);
        check.holds(sentence + "the document says so", document.says(promise, words));
    }

    private void closeSentence() {
        check.holds(sentence + "has rows of its own", rowsOfSentence > 0);
    }

    /** A call that is taken answers so; if it only asks, it changes nothing. */
    void taken(String given, String call, int want) {
        if (CHANGING.contains(nameOf(call))) {
            due(given, call, call(after(given), call), want);
        } else {
            answersAndLeaves(given, call, want, NOTHING_KEPT);
        }
    }

    /** A refused call answers so, and all that can be asked, IMAGES too, is as if it had not been made. */
    void refused(String given, String call, int refusal) {
        int want = nameOf(call).equals("sum") ? SlotStar.GONE + refusal : refusal;
        answersAndLeaves(given, call, want, NOTHING_KEPT);
        answersAndLeaves(given, call, want, BOTH_KEPT);
    }

    /** As refused, of a call that is refused only while an IMAGE is not kept. */
    void refusedUnkept(String given, String call, int refusal) {
        answersAndLeaves(given, call, refusal, NOTHING_KEPT);
    }

    /** All that told tells: Q, P, M, WIDTH, T, N, BALANCED. */
    void told(String given, int... want) {
        for (int what = 0; what < want.length; what++) taken(given, "told " + what, want[what]);
    }

    /** The last numbers taken in place of '#', with their answers, and the first ones that are not, with the farthest. */
    void edges(String given, String call, int refusal, int least, int atLeast, int most, int atMost) {
        taken(given, call.replace("#", "" + least), atLeast);
        taken(given, call.replace("#", "" + most), atMost);
        for (int far : new int[] {least - 1, most + 1, Integer.MIN_VALUE, Integer.MAX_VALUE}) {
            refused(given, call.replace("#", "" + far), refusal);
        }
    }

    void due(String given, String call, int got, int want) {
        rowsOfSentence++;
        int number = nameOf(call).equals("sum") && got < SlotStar.GONE / 2 ? got - SlotStar.GONE : got;
        for (int i = 0; i < Document.REFUSALS.length; i++) {
            if (number == REFUSAL_NUMBERS[i]) answered.add(nameOf(call) + " " + Document.REFUSALS[i]);
        }
        check.due(sentence + "[" + given + "] " + call, got, want);
    }

    private void answersAndLeaves(String given, String call, int want, String before) {
        String all = before.isEmpty() || given.isEmpty() ? before + given : before + ", " + given;
        SlotStar asked = after(all);
        due(all, call, call(asked, call), want);
        check.holds(sentence + "[" + all + "] " + call + " changes nothing", readout(asked).equals(readout(after(all))));
    }

    static SlotStar after(String given) {
        SlotStar x = new SlotStar();
        if (!given.isEmpty()) {
            for (String call : given.split(", ")) call(x, call);
        }
        return x;
    }

    private static String nameOf(String call) {
        return call.split(" ")[0];
    }

    static int call(SlotStar x, String call) {
        String[] words = call.split(" ");
        Object[] numbers = new Object[words.length - 1];
        for (int i = 0; i < numbers.length; i++) numbers[i] = Integer.valueOf(words[i + 1]);
        for (Method method : SlotStar.class.getMethods()) {
            if (method.getName().equals(words[0]) && method.getParameterCount() == numbers.length) return invoke(method, x, numbers);
        }
        throw new IllegalArgumentException("there is no call " + call);
    }

    private static int invoke(Method method, SlotStar x, Object[] numbers) {
        try {
            return (Integer) method.invoke(x, numbers);
        } catch (IllegalAccessException | InvocationTargetException e) {
            throw new IllegalStateException(method.getName() + " threw", e);
        }
    }

    /** What an object holds, as its answers tell; some 340 calls, so that it stays below 512. */
    private static List<Integer> readout(SlotStar x) {
        List<Integer> found = new ArrayList<>();
        readMachine(x, found);
        for (int k = 0; k < 48; k++) {
            found.add(x.slot(k, 3));
            found.add(x.slot(k, 5));
            found.add(x.partner(k));
        }
        for (int i = 0; i < 24; i++) found.add(x.sum(1, 1, i));
        found.add(x.choose(3));
        for (int image = 0; image < 2; image++) {
            found.add(x.restore(image));
            readMachine(x, found);
        }
        return found;
    }

    private static void readMachine(SlotStar x, List<Integer> found) {
        for (int what = 0; what < 7; what++) found.add(x.told(what));
        for (int i = -1; i < 48; i++) found.add(x.own(i));
    }

    /** Each promise has a sentence, and each refusal that the document names there has come; 'never' can not come. */
    void end(String... never) {
        closeSentence();
        Set<String> exempt = Set.of(never);
        for (int promise = firstPromise; promise <= lastPromise; promise++) {
            check.holds("the document has promise " + promise, document.has(promise));
            check.holds("promise " + promise + " has a sentence", promises.contains(promise));
            String name = document.callOf(promise).split("\\(")[0];
            for (String refusal : document.refusalsOf(promise)) {
                String pair = name + " " + refusal;
                check.holds(pair + " has come", answered.contains(pair) != exempt.contains(pair));
            }
        }
        check.end();
    }
}
