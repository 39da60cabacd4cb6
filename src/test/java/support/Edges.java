import java.lang.reflect.Method;
import java.lang.reflect.Modifier;
import java.util.ArrayList;
import java.util.Arrays;
import java.util.Comparator;
import java.util.List;

/** What the tests of edges share: each sentence is a method of its own, and refused calls change nothing. */
final class Edges {
    /** Makes the same object anew each time. */
    interface World {
        SurvivorPurse make();
    }

    interface Call {
        long on(SurvivorPurse x);
    }

    private interface Step {
        void on(SurvivorPurse x);
    }

    private interface TwoNumbers {
        long on(SurvivorPurse x, int a, int b);
    }

    private static final class Question {
        final String name;
        final Call call;

        Question(String name, Call call) {
            this.name = name;
            this.call = call;
        }
    }

    // An object answers 512 calls: those that make it and go on with it, and so many questions.
    private static final int QUESTIONS_OF_ONE = 270;

    // Some of the state shows only in what happens later: whom a pledge pays, what was kept.
    private static final Step[] LATER = {
        x -> { },
        x -> x.back(),
        x -> x.close(1000003),
        Edges::proveAllAndClose,
        Edges::learnAllDeathsAndClose,
    };

    private Edges() {
    }

    /** Runs every sentence of a test; one that asks nothing is a fault of the test. */
    static void runAll(Class<?> test) throws Exception {
        Method[] sentences = test.getDeclaredMethods();
        Arrays.sort(sentences, Comparator.comparing(Method::getName));
        for (Method sentence : sentences) {
            boolean isSentence = !Modifier.isPrivate(sentence.getModifiers()) && !sentence.isSynthetic()
                && sentence.getParameterCount() == 0;
            if (!isSentence) {
                continue;
            }
            int asked = Due.askedSoFar();
            int wrong = Due.wrongSoFar();
            sentence.setAccessible(true);
            sentence.invoke(null);
            Due.holds(sentence.getName() + " asks something", Due.askedSoFar() > asked);
            if (Due.wrongSoFar() > wrong) {
                System.out.println("^ " + test.getSimpleName() + "." + sentence.getName());
            }
        }
        Due.end();
    }

    /** The call answers NO, and whoever asks anything now or later can't tell that it was made. */
    static void refused(String call, World world, Call refused) {
        Due.due(call, refused.on(world.make()), Due.NO);
        alike(call, () -> {
            SurvivorPurse x = world.make();
            refused.on(x);
            return x;
        }, world);
    }

    /** Whoever asks anything of both, now or later, has the same answers. */
    static void alike(String what, World got, World want) {
        for (int way = 0; way < LATER.length; way++) {
            alikeThen(what + ", asked in way " + way, got, want, LATER[way]);
        }
    }

    /** The call is taken: the edge lies behind it. */
    static void taken(String call, World world, Call taken, long want) {
        Due.due(call, taken.on(world.make()), want);
    }

    private static void alikeThen(String what, World got, World want, Step later) {
        SurvivorPurse probe = want.make();
        later.on(probe);
        List<Question> questions = questionsFor(probe);
        for (int from = 0; from < questions.size(); from += QUESTIONS_OF_ONE) {
            SurvivorPurse one = got.make();
            SurvivorPurse other = want.make();
            later.on(one);
            later.on(other);
            int to = Math.min(questions.size(), from + QUESTIONS_OF_ONE);
            for (Question q : questions.subList(from, to)) {
                Due.due(what + ": " + q.name + " behind it", q.call.on(one), q.call.on(other));
            }
        }
    }

    private static List<Question> questionsFor(SurvivorPurse x) {
        List<Question> all = new ArrayList<>();
        int members = (int) x.told(8);
        int classes = (int) x.told(9);
        int shares = (int) x.told(10);
        int year = (int) x.told(0);
        for (int what = 0; what <= 10; what++) {
            int asked = what;
            all.add(new Question("told(" + what + ")", y -> y.told(asked)));
        }
        for (int m = 0; m < members; m++) {
            addRow(all, "of", SurvivorPurse::of, m, 5);
        }
        for (int k = 0; k < classes; k++) {
            addRow(all, "about", SurvivorPurse::about, k, 5);
        }
        for (int s = 0; s < shares; s++) {
            addRow(all, "share", SurvivorPurse::share, s, 12);
            addRow(all, "drew", SurvivorPurse::drew, s, Math.min(year - 1, 6));
        }
        addRow(all, "foretell", SurvivorPurse::foretell, 0, 110);
        all.add(new Question("mean(0)", y -> y.mean(0)));
        all.add(new Question("PATIENCE", y -> y.set(0, 1)));
        all.add(new Question("TAX", y -> y.set(1, 1)));
        return all;
    }

    private static void addRow(List<Question> all, String name, TwoNumbers call, int a, int most) {
        for (int b = 0; b <= most; b++) {
            int second = b;
            all.add(new Question(name + "(" + a + ", " + b + ")", x -> call.on(x, a, second)));
        }
    }

    private static void proveAllAndClose(SurvivorPurse x) {
        int members = (int) x.told(8);
        for (int m = 0; m < members; m++) {
            x.proof(m);
        }
        x.close(1000003);
    }

    private static void learnAllDeathsAndClose(SurvivorPurse x) {
        int members = (int) x.told(8);
        int year = (int) x.told(0);
        for (int m = 0; m < members; m++) {
            x.death(m, Math.max((int) x.of(m, 2), year / 2));
        }
        // With a great yield all would be drawn in years sure, and none would go BACK.
        x.close(1);
        x.close(0);
    }
}
