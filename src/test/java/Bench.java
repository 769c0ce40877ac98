import java.util.Objects;

/** What the tests share: a house that is fed with texts, and checks that count what is wrong. */
final class Bench {
    private static int checks;
    private static int wrong;
    private static String sentence = "";

    final StoryHouse house = new StoryHouse();

    /** A call that may throw. */
    interface Call {
        void run();
    }

    /** A house with a story, played from its beginning. */
    static Bench playing(String source) {
        Bench bench = new Bench();
        int objects = bench.build(source);
        if (objects < 0) {
            same("fault of " + source, "none", objects + " at " + bench.house.place());
        }
        bench.house.begin(1);
        return bench;
    }

    Bench feed(String text) {
        for (int from = 0; from < text.length(); from += 8) {
            int n = Math.min(8, text.length() - from);
            long row = 0;
            for (int i = 0; i < n; i++) {
                row |= (long) text.charAt(from + i) << 8 * i;
            }
            house.feed(row, n);
        }
        return this;
    }

    int build(String source) {
        feed(source);
        return house.build();
    }

    /** A LINE is played: the answer, a blank, and what is told. */
    String play(String line) {
        feed(line);
        int answer = house.enter();
        return answer + " " + out();
    }

    /** Several LINES, of which only the last one's answer counts. */
    String playAll(String... lines) {
        String last = "";
        for (String line : lines) {
            last = play(line);
        }
        return last;
    }

    String out() {
        StringBuilder text = new StringBuilder();
        for (int i = 0; i < house.size(); i++) {
            text.append((char) house.out(i));
        }
        return text.toString();
    }

    /** What an expression tells in a story that has these items, too. */
    static String worth(String items, String expression) {
        Bench bench = playing("room r \"R\" {} " + items + " on wait { say " + expression + "; done; }");
        return bench.play("z");
    }

    static void fault(String source, int number, int place) {
        Bench bench = new Bench();
        int got = bench.build(source);
        same("fault of " + source, -number + " at " + place, got + " at " + bench.house.place());
    }

    static void builds(String source) {
        Bench bench = new Bench();
        int got = bench.build(source);
        same("build of " + source, "true, -1", (got > 0) + ", " + bench.house.place());
    }

    /** The sentence that the next checks are about, with the promise or the term that it belongs to. */
    static void about(String next) {
        sentence = next + ": ";
    }

    static void same(String what, Object due, Object got) {
        checks++;
        if (!Objects.equals(due, got)) {
            wrong++;
            System.out.println(sentence + what + ": due is [" + due + "], answered [" + got + "]");
        }
    }

    static void refuses(String what, Class<? extends RuntimeException> due, Call call) {
        Object got = "nothing";
        try {
            call.run();
        } catch (RuntimeException e) {
            got = e.getClass();
        }
        same(what + " throws", due, got);
    }

    static void end() {
        System.out.println(checks + " checks, " + wrong + " wrong");
        if (wrong > 0) {
            System.exit(1);
        }
    }
}
