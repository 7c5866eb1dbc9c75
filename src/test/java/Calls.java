import java.util.Set;

/** Calls told by their name and numbers, so that a test can make the same ones on several objects. */
final class Calls {
    /** The calls that, as the document tells them, change something (when they are not refused). */
    private static final Set<String> CHANGING = Set.of(
        "things", "thing", "guest", "leave", "say", "wipe", "done", "seen", "forget", "image", "restore");

    private Calls() {
    }

    static boolean onlyAsks(String name) {
        return !CHANGING.contains(name);
    }

    /** NONE is an answer, not a refusal. */
    static boolean isRefusal(long answer) {
        long refusal = answer < SevenPlates.NONE ? answer - SevenPlates.GONE : answer;
        return refusal <= SevenPlates.UNKNOWN && refusal >= SevenPlates.NO;
    }

    static String told(String name, int[] a) {
        StringBuilder call = new StringBuilder(name).append("(");
        for (int i = 0; i < a.length; i++) call.append(i == 0 ? "" : ", ").append(a[i]);
        return call.append(")").toString();
    }

    static long on(SevenPlates x, String name, int... a) {
        switch (name) {
            case "things": return x.things(a[0]);
            case "thing": return x.thing(a[0], a[1], a[2]);
            case "guest": return x.guest(a[0], a[1], a[2], a[3], a[4]);
            case "leave": return x.leave(a[0]);
            case "say": return x.say(a[0]);
            case "wipe": return x.wipe();
            case "fault": return x.fault();
            case "judge": return x.judge(a[0]);
            case "used": return x.used(a[0]);
            case "behind": return x.behind(a[0], a[1]);
            case "done": return x.done();
            case "state": return x.state(a[0], a[1]);
            case "eats": return x.eats(a[0]);
            case "seen": return x.seen(a[0], a[1]);
            case "forget": return x.forget();
            case "rows": return x.rows(a[0], a[1]);
            case "cup": return x.cup(a[0], a[1]);
            case "look": return x.look(a[0], a[1]);
            case "belief": return x.belief(a[0], a[1], a[2]);
            case "alike": return x.alike(a[0]);
            case "lay": return x.lay(a[0]);
            case "hide": return x.hide();
            case "trace": return x.trace();
            case "lock": return x.lock(a[0], a[1]);
            case "year": return x.year(a[0], a[1], a[2]);
            case "image": return x.image(a[0]);
            case "restore": return x.restore(a[0]);
            case "told": return x.told(a[0]);
            default: throw new IllegalArgumentException(name);
        }
    }
}
