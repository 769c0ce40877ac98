/** Promise 3: the TAPE is taken as a SOURCE, and nothing of an earlier one is left in it, had it a FAULT or not; nor does its size matter. */
public final class Promise3AnewTest {
    private static final String R = "room r \"R\" {} ";

    public static void main(String[] args) {
        namesSeenAtAFault();
        letsAtAFault();
        routineAtAFault();
        letsOfManyRoutines();
        thingsThatWereSomewhere();
        routinesElsewhere();
        manyWords();
        longTexts();
        longCode();
        farJumps();
        Bench.end();
    }

    /** Twice, since what is built may be held beside what is built next. */
    private static void buildTwice(Bench bench, String source) {
        for (int i = 0; i < 2; i++) {
            if (bench.build(source) < 0) {
                Bench.same("build of " + source, "no FAULT", bench.house.place());
            }
        }
    }

    private static String many(String item, int from, int to) {
        StringBuilder text = new StringBuilder();
        for (int i = from; i < to; i++) {
            text.append(item.replace("%d", "" + i));
        }
        return text.toString();
    }

    private static void namesSeenAtAFault() {
        Bench.about("Promise 3: NAMES that were seen where a FAULT was are not seen in the next SOURCE");
        String lets = many("let y%d = 1; ", 0, 13);
        for (String fault : new String[] {"q = 1; ", "let r = 1; ", "let y0 = 1; ", "done(); "}) {
            Bench bench = new Bench();
            Bench.same("a FAULT at " + fault, true, bench.build(R + "each { " + lets + fault + "}") < 0);
            Bench.same("all of them in a def that stands first", 2, bench.build("def f(a) { " + lets + "} def g(a) { " + lets + "} " + R));
            Bench.same("a FAULT again", true, bench.build(R + "each { " + lets + fault + "}") < 0);
            Bench.same("14 in an each that stands first", 2, bench.build("each { " + many("let x%d = 1; ", 0, 14) + "} each { " + lets + "let x = 1; } " + R));
            Bench.same("a FAULT once more", true, bench.build(R + "each { " + lets + fault + "}") < 0);
            Bench.same("none is seen", -3, bench.build("each { say y0; } " + R));
            Bench.same("nor the last", -3, bench.build("each { say y12; } " + R));
        }
    }

    private static void letsAtAFault() {
        Bench.about("Promise 3: a let that had a FAULT is not seen behind the next SOURCE's first ;");
        Bench bench = new Bench();
        Bench.same("a FAULT", -4, bench.build(R + "each { let r = 1; }"));
        Bench.same("14 lets behind a var", 2, bench.build("var q = 1; each { " + many("let x%d = 1; ", 0, 14) + "} " + R));
        Bench.same("a FAULT again", -4, bench.build(R + "each { if 1 { let r = 1; } }"));
        Bench.same("its NAME is free", 2, bench.build("var q = 1; each { let r = 1; say r; } room s \"S\" {}"));
    }

    private static void routineAtAFault() {
        Bench.about("Promise 3: a routine that had a FAULT does not go on in the next SOURCE");
        for (String fault : new String[] {"def f() { say q; }", "on look { if 1 { say q; } }", "each { while 1 { return 1; } }", "def f() { done; }"}) {
            Bench bench = new Bench();
            Bench.same("a FAULT", -3, bench.build(R + fault));
            Bench.same("built", 4, bench.build("room r \"R\" { dark; text \"T.\"; exit up s; } room s \"S\" { exit down r; } thing t \"T\" { in player; word tt; text \"Text.\"; }"));
            bench.house.begin(1);
            Bench.same("dark", "It is dark.\n", bench.out());
            Bench.same("a thing", "1 Text.\n", bench.play("x tt"));
            Bench.same("an exit", "1 S\n", bench.play("u"));
        }
    }

    private static void letsOfManyRoutines() {
        Bench.about("Term 1: a let's NAME is seen to the end of its block, in however many routines");
        String first = "each { " + many("let a%d = 1; ", 0, 14) + "} ";
        String second = "each { " + many("let b%d = 1; ", 0, 14) + "} ";
        String third = "each { " + many("if 1 { let c%d = 1; } ", 0, 14) + "} ";
        Bench.builds(R + first + second + third + first + second + third + third + second + first);
        Bench.fault(R + first + second + "each { say b13; }", 3, (R + first + second).length() + 11);
        Bench.about("Term 1: a let's NAME in the innermost of 30 blocks, and those around it");
        String open = R + "each { let y = 1; " + "if 1 { ".repeat(28) + "let v = 2; if 1 { let z = 3; say y, v, z; } ";
        String close = "}".repeat(29);
        Bench.builds(open + "say y, v; let w = 4; let z = 5; " + close);
        Bench.fault(open + "say z; " + close, 3, open.length() + 4);
        Bench.fault(open + "let v = 4; " + close, 4, open.length() + 4);
        Bench.fault(open + "let y = 4; " + close, 4, open.length() + 4);
        Bench.fault(open + "} say v; " + close.substring(1), 3, open.length() + 6);
    }

    private static void thingsThatWereSomewhere() {
        Bench.about("Promise 3: where things were told to be, their words, texts, attributes, exits of an earlier SOURCE");
        Bench bench = new Bench();
        buildTwice(bench, "room r \"R\" { exit up s; dark; text \"T.\"; } thing a \"A\" { in r; word aa; text \"A.\"; open; light; } room s \"S\" { exit up r; }");
        Bench.same("built", 4, bench.build("room r \"R\" {} thing a \"A\" {} thing s \"S\" { in r; word ss; }"));
        bench.house.begin(1);
        Bench.same("told nowhere", 0, bench.house.holder(3));
        Bench.same("OUT", "R\nThere is S here.\n", bench.out());
        Bench.same("no exit", "1 You can not go there.\n", bench.play("u"));
        Bench.same("no text", "1 You see nothing special.\n", bench.play("x ss"));
        Bench.same("no word", "0 You see no such thing.\n", bench.play("x aa"));
        Bench.same("no attributes", false, bench.house.has(2, 6) || bench.house.has(3, 4) || bench.house.has(3, 3));
        bench = new Bench();
        Bench.same("a circle", -6, bench.build(R + "thing a \"A\" { in b; } thing b \"B\" { in a; }"));
        Bench.same("is gone", 4, bench.build(R + "thing a \"A\" { in b; } thing b \"B\" {}"));
        Bench.same("so is a room", -6, bench.build("thing r \"R\" {} thing a \"A\" { in r; }"));
    }

    private static void routinesElsewhere() {
        Bench.about("Promise 3: ons, eachs and defs of an earlier SOURCE");
        Bench bench = new Bench();
        buildTwice(bench, "each { say 1; } on wait { say 2; } def f() { say 3; } each { say 4; } on wait { say 5; } def g() { say 6; } each { say 7; } " + R);
        Bench.same("built", 2, bench.build("def g() { say 8; } " + R + "on look { say 9; } def f() { say 10; } on wait { g(); f(); } each { f(); say 11; }"));
        bench.house.begin(1);
        Bench.same("each on and each once", "1 810Time passes.\n1011", bench.play("z"));
        buildTwice(bench, R + "verb v v alone; on v { say 1; } on v { say 2; } on v { say 3; }");
        Bench.same("built with fewer ons", 2, bench.build(R + "verb v v alone; on v { say 4; } def f() { say 5; } def g() { say 6; }"));
        bench.house.begin(1);
        Bench.same("none that was", "1 4Nothing happens.\n", bench.play("v"));
        Bench.same("built with none", 2, bench.build(R + "verb v v alone;"));
        bench.house.begin(1);
        Bench.same("none at all", "1 Nothing happens.\n", bench.play("v"));
    }

    private static String word(int number) {
        return "q" + (char) ('a' + number / 676 % 26) + (char) ('a' + number / 26 % 26) + (char) ('a' + number % 26);
    }

    private static void manyWords() {
        Bench.about("Term 1: 10 words of each of 118 things and of 49 verbs, in SOURCE behind SOURCE");
        Bench bench = new Bench();
        for (int run = 0; run < 6; run++) {
            StringBuilder source = new StringBuilder("room r\"R\"{}");
            int number = run * 1700;
            for (int i = 0; i < 118; i++) {
                source.append("thing t").append(i).append("\"\"{in r;word ").append(word(number));
                for (int w = 1; w < 10; w++) {
                    source.append(',').append(word(number + w));
                }
                source.append(";}");
                number += 10;
            }
            for (int i = 0; i < 49; i++) {
                source.append("verb v").append(i).append(" z").append(word(number));
                for (int w = 1; w < 10; w++) {
                    source.append(",z").append(word(number + w));
                }
                source.append(" two y").append(word(number)).append(";");
                number += 10;
            }
            Bench.same("OBJECTS", 120, bench.build(source.append("on v48{say noun,\" \",second;done;}").toString()));
            bench.house.begin(1);
            int first = run * 1700;
            Bench.same("the first and the last words", "1 3 120", bench.play("z" + word(number - 1) + " " + word(first) + " y" + word(number - 10) + " " + word(first + 1179)));
            Bench.same("others", "1 4 62", bench.play("z" + word(number - 10) + " " + word(first + 19) + " y" + word(number - 10) + " " + word(first + 599)));
            Bench.same("one of the SOURCE before", "0 You see no such thing.\n", bench.play("x " + word(first + 1700)));
            Bench.same("sound", true, bench.house.sound());
        }
    }

    private static void longTexts() {
        Bench.about("Promise 3: SOURCE behind SOURCE with many long STRINGS");
        Bench bench = new Bench();
        for (int run = 0; run < 8; run++) {
            StringBuilder source = new StringBuilder("room r\"R\"{}");
            for (int i = 0; i < 60; i++) {
                String text = ("" + (char) ('A' + (run + i) % 26) + i).repeat(60);
                source.append("thing t").append(i).append("\"\"{in r;word ").append(word(i)).append(";text\"").append(text).append("\";}");
            }
            Bench.same("OBJECTS", 62, bench.build(source.toString()));
            bench.house.begin(1);
            for (int i : new int[] {0, 30, 59}) {
                Bench.same("text " + i + " of " + run, "1 " + ("" + (char) ('A' + (run + i) % 26) + i).repeat(60) + "\n", bench.play("x " + word(i)));
            }
            Bench.same("sound", true, bench.house.sound());
        }
    }

    private static void longCode() {
        Bench.about("Promise 3: SOURCE behind SOURCE with as much in routines as 16000 bytes hold");
        Bench bench = new Bench();
        for (int run = 0; run < 6; run++) {
            StringBuilder source = new StringBuilder("room r\"R\"{}var x=0;def f(){x=x+1;}");
            for (int i = 0; i < 3; i++) {
                source.append("on wait{if x==").append(i).append("{").append("say 1,1;".repeat(230)).append("say x,1<1").append(",1<1".repeat(460)).append(";}f();}");
            }
            source.append("each{").append("x=x+1;".repeat(400)).append("say\" ").append(run).append("\",x;}");
            Bench.same("OBJECTS", 2, bench.build(source.toString()));
            bench.house.begin(1);
            String due = "1".repeat(460) + "#" + "0".repeat(461);
            Bench.same("run " + run, "1 " + due.replace("#", "0") + due.replace("#", "1") + due.replace("#", "2") + "Time passes.\n " + run + "403", bench.play("z"));
            Bench.same("sound", true, bench.house.sound());
        }
    }

    private static void farJumps() {
        Bench.about("Term 1: if, else, while, and, or, however far they lead");
        for (int far : new int[] {1, 15, 16, 17, 40, 80, 150}) {
            String much = "x=x+1;".repeat(far);
            String ors = "0 or ".repeat(Math.min(100, far * 2));
            String ands = "1 and ".repeat(Math.min(100, far * 2));
            String story = R + "var x=0;var t=0;def f(){" + much + "}on wait{if t{" + much + "say 1;}else{" + much + "say 2;}if not t{" + much + "say 3;}else{" + much + "say 4;}"
                    + "}on wait{let i=0;while i<2{i=i+1;" + much + "}say " + ors + "1," + ands + "0,1 or " + ands + "0,0 and (" + ors + "1);}on wait{f();f();if t{done;}}each{t=1-t;say x;x=0;}";
            Bench bench = Bench.playing(story);
            Bench.same("far " + far, "1 231010Time passes.\n" + 6 * far, bench.play("z"));
            Bench.same("the other way, far " + far, "1 141010" + 6 * far, bench.play("z"));
        }
    }
}
