import java.util.ArrayList;
import java.util.List;

/**
 * All that an object shows: what it tells, what its pad comes to, what is asked of its sights and its table, and
 * last what its images hold. To take it uses the object up (its images are restored).
 */
final class Picture {
    record Question(String name, int... a) {
    }

    private static final List<Question> QUESTIONS = questions();

    private final long[] answers = new long[QUESTIONS.size()];

    private Picture() {
    }

    static int calls() {
        return QUESTIONS.size();
    }

    static Picture of(SevenPlates x) {
        Picture picture = new Picture();
        for (int i = 0; i < QUESTIONS.size(); i++) {
            picture.answers[i] = Calls.on(x, QUESTIONS.get(i).name, QUESTIONS.get(i).a);
        }
        return picture;
    }

    /** The first thing that is otherwise, or an empty text. */
    String otherThan(Picture before) {
        for (int i = 0; i < answers.length; i++) {
            if (answers[i] == before.answers[i]) continue;
            Question question = QUESTIONS.get(i);
            return "question " + i + ", " + Calls.told(question.name, question.a) + ", answered "
                + before.answers[i] + " without it, " + answers[i] + " behind it";
        }
        return "";
    }

    private static List<Question> questions() {
        List<Question> all = new ArrayList<>();
        allTold(all);
        ofThePad(all);
        ofSights(all);
        ofTheTable(all);
        for (int image = 0; image < 2; image++) {
            all.add(new Question("restore", image));
            allTold(all);
        }
        return all;
    }

    private static void allTold(List<Question> all) {
        for (int what = 0; what < 4; what++) all.add(new Question("told", what));
        for (int i = 0; i < 42; i++) all.add(new Question("told", 10 * (1 + i / 6) + i % 6));
        for (int i = 0; i < 16; i++) all.add(new Question("told", 100 * (1 + i / 4) + i % 4));
    }

    private static void ofThePad(List<Question> all) {
        all.add(new Question("fault"));
        for (int what = 0; what < 4; what++) all.add(new Question("judge", what));
        for (int part = 0; part < 40; part++) all.add(new Question("used", part));
        for (int i = 0; i < 28; i++) all.add(new Question("behind", i / 4, i % 4));
        all.add(new Question("hide"));
        all.add(new Question("trace"));
    }

    private static void ofSights(List<Question> all) {
        for (int what = 0; what < 5; what++) all.add(new Question("rows", 2, what));
        all.add(new Question("cup", 0, 2));
        all.add(new Question("look", 2, 0));
        all.add(new Question("belief", 2, -1, 0));
        all.add(new Question("belief", 2, -1, 1));
    }

    private static void ofTheTable(List<Question> all) {
        for (int guest = 0; guest < 4; guest++) all.add(new Question("eats", guest));
        all.add(new Question("alike", -1));
        all.add(new Question("alike", 0));
        all.add(new Question("lay", 1));
        all.add(new Question("lock", -1, 2));
        for (int what = 0; what < 3; what++) all.add(new Question("year", 7, 4, what));
    }
}
