import java.util.Random;

/**
 * Promise 18: sound stays true through all that is done; and no call throws what the document does not
 * name, whatever is fed. What is random here is the same in each run.
 */
public final class SoundTest {
    private static final String[] PIECES = {"room", "thing", "verb", "var", "array", "def", "on", "each", "{", "}", "(", ")", "[", "]",
        ";", ",", "=", "==", "+", "-", "*", "/", "%", "\"T x^.\"", "\"\"", "12", "0", "r", "t", "x", "f", "a", "v", "look", "take", "go",
        "say", "let", "if", "else", "while", "move", "to", "set", "light", "done", "win", "return", "not", "and", "or", "in", "has",
        "first", "holder", "random", "here", "noun", "player", "north", "any", "alone", "two", "text", "word", "dark", "exit", "#", "\n"};
    private static final String STORY = "room r \"Room ~1!\" { text \"A.B,C;D:E?F(G)H[I]J{K}L|M@N$\"; exit up s; } room s \"S\" { dark; exit down r; } "
            + "thing a \"A\" { in r; word aa; container; open; } thing b \"B\" { in a; word bb; } thing c \"C\" { in s; word cc; supporter; light; } "
            + "var x = 1; array t[3]; verb v v one; def f(n) { if n > 0 { return f(n - 1) + t[n % 3]; } return x; } "
            + "on v a { move noun to player; say f(4), name noun; } on v b { say 1 / (x - 1); } on v c { win; } "
            + "each { x = x + 1; t[x % 3] = random 9; while random 3 == 1 { x = x + 1; } }";
    private static final String[] LINES = {"v aa", "v bb", "v cc", "u", "d", "take all", "drop all", "put bb in aa", "put it on cc", "g",
        "look", "i", "x it", "", "zzz", "close aa", "open aa", "take bb", "v me"};

    public static void main(String[] args) {
        signs();
        plays();
        sources();
        Bench.end();
    }

    /** Each sign that a STRING can have is told as it stands. */
    private static void signs() {
        StringBuilder text = new StringBuilder();
        for (int c = 32; c < 127; c++) {
            if (c != '"') {
                text.append((char) c);
            }
        }
        Bench bench = Bench.playing("room r \"" + text + "\" { text \"" + text.reverse() + "\"; }");
        String back = text.toString();
        Bench.same("all signs", (text.reverse() + "\n" + back + "\n").replace('^', '\n'), bench.out());
        Bench.same("sound", true, bench.house.sound());
        for (int n = 0; n <= 200; n += 1) {
            String some = "aB".repeat(100).substring(0, n);
            bench = Bench.playing("room r \"" + some + "\" {} thing t \"z\" {}");
            Bench.same(n + " signs", some + "\n", bench.out());
            Bench.same("sound with " + n, true, bench.house.sound());
        }
    }

    private static void plays() {
        Random random = new Random(5);
        for (int run = 0; run < 200; run++) {
            Bench bench = Bench.playing(STORY);
            bench.house.begin(run);
            for (int i = 0; i < 40; i++) {
                int kind = random.nextInt(12);
                if (kind == 0) {
                    bench.house.undo();
                } else if (kind == 1) {
                    bench.house.save(0);
                } else if (kind == 2 && i > 20) {
                    bench.house.save(1);
                    bench.house.restore(1);
                } else {
                    bench.play(LINES[random.nextInt(LINES.length)]);
                }
                Bench.same("sound in run " + run, true, bench.house.sound());
            }
        }
    }

    /** Sources of any words: each is built or has a fault inside it, and nothing else comes of it. */
    private static void sources() {
        Random random = new Random(6);
        String[] words = STORY.split(" ");
        for (int run = 0; run < 4000; run++) {
            Bench bench = new Bench();
            StringBuilder source = new StringBuilder();
            int cut = random.nextInt(words.length);
            for (int i = 0; i < words.length; i++) {
                source.append(i == cut || random.nextInt(200) == 0 ? PIECES[random.nextInt(PIECES.length)] : words[i]).append(' ');
            }
            if (run % 4 == 0) {
                source.setLength(0);
                for (int i = random.nextInt(30); i >= 0; i--) {
                    source.append(PIECES[random.nextInt(PIECES.length)]).append(' ');
                }
            }
            int answer = bench.build(source.toString());
            int place = bench.house.place();
            boolean fits = answer > 1 ? place == StoryHouse.NONE : answer < 0 && answer > -7 && place >= 0 && place <= source.length();
            Bench.same("an answer that fits, of " + source, true, fits);
            Bench.same("sound", true, bench.house.sound());
            if (answer > 0) {
                bench.house.begin(run);
                for (String line : LINES) {
                    bench.play(line);
                }
                Bench.same("sound behind a play", true, bench.house.sound());
            }
        }
    }
}
