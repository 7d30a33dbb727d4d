import java.util.ArrayList;
import java.util.List;

/** Tests of single sentences of the document. Calls are written as texts: "ball 0 3 8" is ball(0, 3, 8). */
abstract class Edges {
    static final int NONE = -6, UNKNOWN = -1, OUTSIDE = -2, STATE = -3, FULL = -4, NO = -5;
    static final long LOST = -1000000000000000000L;
    static final int LEAST = Integer.MIN_VALUE, MOST = Integer.MAX_VALUE;
    private static final int CALLS = 512;
    private static final List<String> VIEW = view();

    private final Doc doc;
    private final Due due;
    private final List<String> history = new ArrayList<>();
    private BaubleHill hill = new BaubleHill();
    private String about = "";
    private int asked = 1;

    Edges(Doc doc, Due due) {
        this.doc = doc;
        this.due = due;
    }

    /** Tests its sentences, one after the other. */
    abstract void run();

    /** What follows, up to the next sentence, tests these words of a promise. */
    final void promise(int number, String words) {
        sentence("Promise " + number, "Promise " + number, words);
    }

    /** What follows tests these words of the Terms, which these promises use. */
    final void terms(String promises, String words) {
        sentence("Terms, for promise " + promises, Doc.TERMS, words);
    }

    /** What follows tests these words of the document's first section, which holds for all promises. */
    final void whole(String words) {
        sentence("What it is, for promise 1 to 26", Doc.WHOLE, words);
    }

    private void sentence(String label, String section, String words) {
        end();
        about = label + ": \"" + words + "\": ";
        asked = 0;
        due.due(about + "stands in the document", doc.speakOf(section, words) ? 1 : 0, 1);
        anew();
    }

    /** The last sentence was tested, if any answer was asked for. */
    final void end() {
        due.due(about + "is tested", asked > 0 ? 1 : 0, 1);
    }

    final void anew() {
        history.clear();
        hill = new BaubleHill();
    }

    /** A new hill on which each LOOP hangs from the one before. */
    final void path() {
        anew();
        for (int loop = 1; loop < 12; loop++) set("branch " + loop + " " + (loop - 1));
    }

    /** A new hill on which each LOOP hangs from the stem. */
    final void star() {
        anew();
        for (int loop = 1; loop < 12; loop++) set("branch " + loop + " 0");
    }

    /** Calls, parted by ';', whose answers are no matter here. */
    final void set(String calls) {
        for (String call : calls.split("; ")) {
            history.add(call);
            answer(hill, call);
        }
    }

    final void write(String text) {
        set("wipe");
        for (int i = 0; i < text.length(); i++) set("say " + (int) text.charAt(i));
    }

    final void is(String call, long want) {
        history.add(call);
        asked++;
        due.due(about + call, answer(hill, call), want);
        due.due(about + call + ": calls of one object", Math.max(CALLS, history.size()), CALLS);
    }

    /** As is(..), and nothing is changed by it. */
    final void keeps(String call, long want) {
        long[] before = viewBehindHistory();
        is(call, want);
        long[] after = viewBehindHistory();
        for (int i = 0; i < after.length; i++) {
            if (after[i] != before[i]) due.due(about + VIEW.get(i) + " behind " + call, after[i], before[i]);
        }
    }

    /** The answers of a new hill to all of VIEW, after the calls up to here: the view itself changes much. */
    private long[] viewBehindHistory() {
        BaubleHill again = new BaubleHill();
        for (String call : history) answer(again, call);
        long[] answers = new long[VIEW.size()];
        for (int i = 0; i < answers.length; i++) answers[i] = answer(again, VIEW.get(i));
        due.due(about + "calls of one object", Math.max(CALLS, history.size() + answers.length), CALLS);
        return answers;
    }

    private long answer(BaubleHill to, String call) {
        String[] words = call.split(" ");
        Object[] numbers = new Object[words.length - 1];
        for (int i = 0; i < numbers.length; i++) numbers[i] = Integer.valueOf(words[i + 1]);
        long answer = Calls.answer(to, words[0], numbers);
        if (answer == Calls.THROWN) due.due(about + call + " throws", 1, 0);
        return answer;
    }

    /** Calls by which all that a hill holds is seen: its now, its PAD, and its IMAGES. */
    private static List<String> view() {
        List<String> calls = new ArrayList<>();
        addState(calls);
        for (String call : new String[] {"fault", "judge 0", "judge 1", "ask 0", "ask 1"}) calls.add(call);
        for (int what = 0; what < 6; what++) calls.add("then " + what);
        calls.add("done");
        addState(calls);
        for (int n = 0; n < 2; n++) {
            calls.add("restore " + n);
            addState(calls);
        }
        return calls;
    }

    private static void addState(List<String> calls) {
        for (int what = 0; what < 5; what++) calls.add("told " + what);
        for (int loop = 0; loop < 12; loop++) calls.add("told " + (10 + loop));
        for (int ball = 0; ball < 6; ball++) calls.add("told " + (30 + ball));
        for (int ball = 0; ball < 6; ball++) calls.add("told " + (40 + ball));
        for (int i = -1; i < 4; i++) calls.add("where " + i);
    }
}
