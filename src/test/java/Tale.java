import java.util.ArrayList;
import java.util.List;

/**
 * Calls on one new object, each a text such as "thing 0 1 5 = 9" or "say 32 = OUTSIDE". Behind each that is refused,
 * and each that only asks, all must be as it was: another object, made by the same calls without it, shows the same.
 * "pad AB.0" says these signs on an empty pad.
 */
final class Tale {
    private static final int MOST_CALLS = 512;
    private static final Check c = new Check();

    private record Step(String name, int[] a) {
    }

    private final String sentence;
    private final SevenPlates x = new SevenPlates();
    private final List<Step> changes = new ArrayList<>();
    private int calls;
    private Picture asItIs;

    private Tale(String sentence) {
        this.sentence = sentence;
    }

    static void tell(String sentence, String... texts) {
        Tale tale = new Tale(sentence);
        for (String text : texts) tale.step(text);
    }

    static void tell(String sentence, List<String> texts) {
        tell(sentence, texts.toArray(new String[0]));
    }

    static void end() {
        c.end();
    }

    private void step(String text) {
        if (text.startsWith("pad ")) {
            say(text.substring(4));
            return;
        }
        String[] sides = text.split(" = ");
        String[] words = sides[0].split(" ");
        Step step = new Step(words[0], new int[words.length - 1]);
        for (int i = 1; i < words.length; i++) step.a[i - 1] = (int) number(words[i]);
        long due = number(sides[1].trim());
        c.due(sentence + ": " + text, make(x, step), due);
        if (Calls.isRefusal(due) || Calls.onlyAsks(step.name)) {
            String otherwise = otherwise(step);
            c.holds(sentence + ": " + text + " changes nothing; " + otherwise, otherwise.isEmpty());
        } else {
            change(step);
        }
    }

    private void say(String signs) {
        Step wipe = new Step("wipe", new int[0]);
        make(x, wipe);
        change(wipe);
        for (int i = 0; i < signs.length(); i++) {
            Step sign = new Step("say", new int[] {signs.charAt(i)});
            c.due(sentence + ": pad " + signs, make(x, sign), i + 1);
            change(sign);
        }
    }

    private void change(Step step) {
        changes.add(step);
        asItIs = null;
    }

    private long make(SevenPlates on, Step step) {
        calls++;
        if (calls > MOST_CALLS) throw new IllegalStateException("too many calls: " + sentence);
        return Calls.on(on, step.name, step.a);
    }

    private SevenPlates again() {
        if (changes.size() + 1 + Picture.calls() > MOST_CALLS) throw new IllegalStateException("too long: " + sentence);
        SevenPlates other = new SevenPlates();
        for (Step each : changes) Calls.on(other, each.name, each.a);
        return other;
    }

    /** What is otherwise behind the call, or an empty text. */
    private String otherwise(Step step) {
        if (asItIs == null) asItIs = Picture.of(again());
        SevenPlates other = again();
        Calls.on(other, step.name, step.a);
        return Picture.of(other).otherThan(asItIs);
    }

    static long number(String word) {
        switch (word) {
            case "UNKNOWN": return -1;
            case "OUTSIDE": return -2;
            case "STATE": return -3;
            case "FULL": return -4;
            case "NO": return -5;
            case "NONE": return -6;
            case "GONE-UNKNOWN": return -1000000000000000001L;
            case "GONE-OUTSIDE": return -1000000000000000002L;
            case "GONE-STATE": return -1000000000000000003L;
            case "MIN": return Integer.MIN_VALUE;
            case "MAX": return Integer.MAX_VALUE;
            default: return Long.parseLong(word);
        }
    }
}
