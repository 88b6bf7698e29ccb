import java.util.ArrayList;
import java.util.List;

/**
 * 'What is refused changes nothing': after refused calls an object answers everything that the face can be asked
 * just as another one does that was made the same way and never heard those calls.
 */
final class Untouched {
    private static final int[] DAYS = {0, 5, 9_999};
    private static final int SKILLS = 16;
    private static final int AREAS = 10;
    private static final int FINDINGS = 32;

    private final String title;
    private final String setup;
    private final int spare;
    private final List<String> questions = new ArrayList<>();

    private Untouched(String title, String setup) {
        this.title = title;
        this.setup = setup;
        Calls calls = Calls.on(title).run(setup);
        spare = calls.left();
        askKinds(Integer.parseInt(calls.answer("count 0")));
        askIncidents(Integer.parseInt(calls.answer("count 4")));
    }

    /** Each refused call for itself. They are lines with the refusal that is due, which is looked at too. */
    static void check(String title, String setup, String refused) {
        Untouched untouched = new Untouched(title, setup);
        for (String call : refused.split("\n")) {
            untouched.compare(call);
        }
    }

    /** Many refused calls, as many at once as leave room for questions. */
    static void check(String title, String setup, List<String> refused) {
        Untouched untouched = new Untouched(title, setup);
        int atOnce = Math.max(1, untouched.spare / 2);
        for (int from = 0; from < refused.size(); from += atOnce) {
            List<String> some = refused.subList(from, Math.min(refused.size(), from + atOnce));
            untouched.compare(String.join("\n", some));
        }
    }

    /** As many questions as one object has calls left for, then the next ones on new objects. */
    private void compare(String refused) {
        int next = 0;
        while (next < questions.size()) {
            Calls asked = Calls.on(title).run(setup).run(refused);
            Calls spared = Calls.on(title).run(setup);
            int until = Math.min(questions.size(), next + Math.max(1, asked.left()));
            for (; next < until; next++) {
                String question = questions.get(next);
                String got = asked.answer(question);
                String due = spared.answer(question);
                if (!got.equals(due)) {
                    Calls.fail(title + ": " + question + " answered " + got + " after refused calls, due is " + due);
                    return;
                }
            }
        }
    }

    private void askKinds(int kinds) {
        for (int what = 0; what < 5; what++) {
            questions.add("count " + what);
        }
        for (int kind = 0; kind < kinds; kind++) {
            questions.add("has " + kind + " 5 0");
            for (int day : DAYS) {
                askWhatItHas(kind, day);
            }
            for (int area = 0; area < AREAS; area++) {
                questions.add("in " + kind + " " + area);
            }
        }
        for (int day : DAYS) {
            for (int i = 0; i <= kinds; i++) {
                questions.add("uncovered " + day + " " + i);
            }
        }
    }

    private void askWhatItHas(int kind, int day) {
        for (int what = 0; what < 5; what++) {
            questions.add("has " + kind + " " + what + " " + day);
        }
        for (int skill = 0; skill < SKILLS; skill++) {
            questions.add("has " + kind + " " + (10 + skill) + " " + day);
        }
    }

    /** What was sent and the upgrades are seen only by calls that change something: they come last. */
    private void askIncidents(int incidents) {
        for (int incident = 0; incident < incidents; incident++) {
            for (int what = 0; what < 3; what++) {
                questions.add("incident " + incident + " " + what);
            }
        }
        for (int incident = 0; incident < incidents; incident++) {
            for (int skill = 0; skill < SKILLS; skill++) {
                questions.add("send " + incident + " " + skill + " 1");
            }
        }
        for (int finding = 0; finding < FINDINGS; finding++) {
            for (int incident = 0; incident < incidents; incident++) {
                questions.add("found " + incident + " " + finding + " 0");
            }
        }
        questions.add("kind -1");
        questions.add("open 0 0 0");
    }
}
