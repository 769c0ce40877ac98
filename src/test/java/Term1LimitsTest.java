/** Term 1, THE SOURCE: how much of everything there may be, and fault 5 at the NAME or word with which it is too much. */
public final class Term1LimitsTest {
    private static final String ROOM = "room r \"R\" {} ";

    public static void main(String[] args) {
        objects();
        verbs();
        vars();
        arrays();
        cells();
        defs();
        lists();
        lets();
        routineBytes();
        onsAndEachs();
        ownWords();
        Bench.end();
    }

    private static String many(String item, int count) {
        StringBuilder text = new StringBuilder();
        for (int i = 0; i < count; i++) {
            text.append(item.replace("%d", "" + i));
        }
        return text.toString();
    }

    /** So many fit behind what is ahead; one more, two more do not, and the first of these is told. */
    private static void most(String ahead, String item, int count, int place) {
        String full = ahead + many(item, count);
        Bench.builds(full);
        Bench.fault(full + item.replace("%d", "x"), 5, full.length() + place);
        Bench.fault(full + item.replace("%d", "x") + item.replace("%d", "y"), 5, full.length() + place);
    }

    private static void objects() {
        Bench.about("Term 1: OBJECTS are 2 .. 120, rooms and things together");
        most(ROOM, "thing t%d \"\" {} ", 118, 6);
        most("", "room r%d \"\" {} ", 119, 5);
        most(ROOM + many("room q%d \"\" {} ", 50), "thing t%d \"\" {} ", 68, 6);
        most(many("thing t%d \"\" {} ", 100), "room r%d \"\" {} ", 19, 5);
        Bench bench = new Bench();
        Bench.same("all of them", 120, bench.build(many("room r%d \"\" {} ", 119)));
        Bench.about("Term 1: OBJECT 120 is one like the others");
        bench = Bench.playing(many("thing t%d \"\" {} ", 118) + "room r \"Last\" { dark; text \"Text.\"; exit down r; } on wait { set r light; say here, name r, r has light; move t117 to player; set t117 light; }");
        Bench.same("the only room", 120, bench.house.holder(1));
        Bench.same("it is dark", true, bench.house.has(120, 6));
        Bench.same("its numbers", "1 120Last1Time passes.\n", bench.play("z"));
        Bench.same("its exit, its text", "1 Last\nText.\n", bench.play("d"));
        bench = Bench.playing("room r \"R\" {} " + many("thing t%d \"\" {} ", 114) + "thing a \"A\" { in r; word aa; supporter; } thing b \"B\" { in a; word bb; } "
                + "thing c \"C\" { in a; word cc; } thing d \"D\" { in r; word dd; text \"Text.\"; container; } on examine d { say noun; } on wait { move c to d; move b to d; move d to r; }");
        Bench.same("the order", "120 117 1 0 119 118 0", bench.house.first(2, false) + " " + bench.house.first(120, true) + " " + bench.house.first(117, true) + " "
                + bench.house.first(1, true) + " " + bench.house.first(117, false) + " " + bench.house.first(119, true) + " " + bench.house.first(118, true));
        Bench.same("a rule for it", "1 120Text.\n", bench.play("x dd"));
        bench.play("z");
        Bench.same("what is in it", "118 119 0 117", bench.house.first(120, false) + " " + bench.house.first(118, true) + " " + bench.house.first(119, true) + " " + bench.house.first(120, true));
        bench.play("take dd");
        Bench.same("taken", "120 117", bench.house.first(1, false) + " " + bench.house.first(2, false));
        Bench.same("sound", true, bench.house.sound());
        String circle = "room r \"R\" {} " + many("thing t%d \"\" {} ", 117) + "thing t \"T\" { in t; }";
        Bench.fault(circle, 6, circle.length());
    }

    private static void verbs() {
        Bench.about("Term 1: VERBS are up to 60");
        most(ROOM, "verb v%d v alone; ", 49, 5);
        Bench bench = new Bench();
        bench.build(ROOM + many("verb v%d v alone; ", 49));
        Bench.same("all of them", 60, bench.house.told(1));
    }

    private static void vars() {
        Bench.about("Term 1: at most 100 vars");
        most(ROOM, "var x%d = 1; ", 100, 4);
    }

    private static void arrays() {
        Bench.about("Term 1: at most 20 arrays");
        most(ROOM, "array a%d[50]; ", 20, 6);
        Bench.fault(ROOM + many("array a%d[1]; ", 20) + "array b[0];", 5, ROOM.length() + many("array a%d[1]; ", 20).length() + 6);
        Bench.about("Term 1: arrays of 1 .. 400 cells, fault 5 at the NUMBER");
        Bench.builds(ROOM + "array a[1];");
        Bench.builds(ROOM + "array a[400];");
        for (String size : new String[] {"0", "401", "1000", "1001", "32767", "000"}) {
            Bench.fault(ROOM + "array a[" + size + "];", 5, 22);
            Bench.fault(ROOM + "array a [ " + size + " ] ; array b[0];", 5, 24);
        }
        Bench.builds(ROOM + "array a[0400];");
    }

    private static void cells() {
        Bench.about("Term 1: at most 1000 cells together, fault 5 at the NUMBER with which it is too much");
        Bench.builds(ROOM + "array a[400]; array b[400]; array c[200];");
        Bench.builds(ROOM + "array a[400]; array b[400]; array c[199]; array d[1];");
        Bench.fault(ROOM + "array a[400]; array b[400]; array c[201];", 5, 50);
        Bench.fault(ROOM + "array a[400]; array b[400]; array c[200]; array d[1];", 5, 64);
        Bench.fault(ROOM + "array a[400]; array b[400]; array c[400];", 5, 50);
        Bench.fault(ROOM + "array a[400]; array b[400]; array c[200]; array r[1];", 4, 62);
        Bench.about("Term 1: a cell is its array's alone");
        Bench bench = Bench.playing(ROOM + "array a[400]; array b[400]; array c[200]; "
                + "on wait { a[399] = 1; b[0] = 2; b[399] = 3; c[0] = 4; c[199] = 5; }");
        bench.play("z");
        Bench.same("the outmost", "0 1 2 3 4 5", bench.house.cell(0, 0) + " " + bench.house.cell(0, 399) + " " + bench.house.cell(1, 0) + " "
                + bench.house.cell(1, 399) + " " + bench.house.cell(2, 0) + " " + bench.house.cell(2, 199));
    }

    private static void defs() {
        Bench.about("Term 1: at most 100 defs");
        most(ROOM, "def f%d() {} ", 100, 4);
    }

    private static void lists() {
        Bench.about("Term 1: defs with up to 6 in their list, fault 5 at the NAME with which it is too much");
        Bench.builds(ROOM + "def f(a, b, c, d, e, g) {} def h() {} def i(a) {}");
        Bench.fault(ROOM + "def f(a, b, c, d, e, g, h) {}", 5, 38);
        Bench.fault(ROOM + "def f(a, b, c, d, e, g, h, i) {}", 5, 38);
        Bench.fault(ROOM + "def f(a, b, c, d, e, g, a) {}", 4, 38);
        Bench.builds(ROOM + many("def f%d(a, b, c, d, e, g) {} ", 40));
    }

    private static void lets() {
        Bench.about("Term 1: 14 NAMES of a list and of let in one def, on or each, fault 5 at the NAME with which it is too much");
        for (String head : new String[] {"each { ", "on look { ", "def f() { "}) {
            most(ROOM + head, "let y%d = 1; ", 14, 4, " }");
        }
        most(ROOM + "def f(a) { ", "let y%d = 1; ", 13, 4, " }");
        most(ROOM + "def f(a, b, c, d, e, g) { ", "let y%d = 1; ", 8, 4, " }");
        most(ROOM + "each { ", "if 1 { let y%d = 1; } ", 14, 11, " }");
        most(ROOM + "each { ", "while 0 { let y%d = 1; } ", 14, 14, " }");
        most(ROOM + "def f(a, b) { if a {} else { ", "let y%d = 1; ", 12, 4, " } }");
        Bench.builds(ROOM + ("each { " + many("let y%d = 1; ", 14) + "} ").repeat(3) + "def f(a, b, c, d, e, g) { " + many("let y%d = 1; ", 8) + "}");
        String full = ROOM + "each { let y = 1; " + many("let y%d = 1; ", 13);
        Bench.fault(full + "let y = 1; }", 4, full.length() + 4);
        Bench.about("Term 1: all 14 NAMES keep their numbers");
        Bench.same("14", "1 1234567891011121314", Bench.playing(ROOM + "def f(a, b, c, d, e, g) { " + sevenToFourteen()
                + "say a, b, c, d, e, g, y7, y8, y9, y10, y11, y12, y13, y14; } on wait { f(1, 2, 3, 4, 5, 6); done; }").play("z"));
    }

    private static String sevenToFourteen() {
        StringBuilder text = new StringBuilder();
        for (int i = 7; i <= 14; i++) {
            text.append("let y").append(i).append(" = ").append(i).append("; ");
        }
        return text.toString();
    }

    private static void most(String ahead, String item, int count, int place, String behind) {
        String full = ahead + many(item, count);
        Bench.builds(full + behind);
        Bench.fault(full + item.replace("%d", "x") + behind, 5, full.length() + place);
    }

    private static void routineBytes() {
        Bench.about("Term 1: a def, on or each has at most 4000 bytes, from that word to its last }");
        String[] heads = {"def f() {", "def f(a, b) { if a { say b; }", "on look {", "on take any {", "each {", "each { while 0 {}"};
        for (String head : heads) {
            int place = ROOM.length() + (head.startsWith("def") ? 4 : 0);
            for (String filler : new String[] {" ", "\n", "#"}) {
                String inside = filler.repeat(3998 - head.length()) + "\n";
                Bench.builds(ROOM + head + inside + "}");
                Bench.builds(ROOM + head + inside + "} # behind it nothing counts\n" + " ".repeat(100) + "def g() {}");
                Bench.fault(ROOM + head + "\n" + inside + "}", 5, place);
                Bench.fault(ROOM + head + "\n" + inside + "} def g() {}", 5, place);
            }
            Bench.fault(ROOM + head + " ".repeat(9000) + "}", 5, place);
        }
        Bench.builds(ROOM + "#".repeat(4000) + "\neach {" + " ".repeat(3993) + "}" + "each {" + " ".repeat(3993) + "}");
        Bench.builds("room r \"R\" {" + " ".repeat(5000) + "}");
        Bench.about("Term 1: a def's bytes are fault 5 at its NAME, of one NAME behind 4");
        Bench.fault(ROOM + "def r() {" + " ".repeat(4000) + "}", 4, 18);
        Bench.fault(ROOM + "def f(f) {" + " ".repeat(4000) + "}", 5, 18);
        Bench.fault(ROOM + "each { let r = 1; " + " ".repeat(4000) + "}", 5, 14);
        Bench.fault(ROOM + "each { let r = 1; } each {" + " ".repeat(4000) + "}", 4, 25);
    }

    private static void onsAndEachs() {
        Bench.about("Term 1: 200 ons, 20 eachs, fault 5 at that word");
        most(ROOM, "on look {} ", 200, 0);
        most(ROOM, "each {} ", 20, 0);
        most(ROOM + many("each {} ", 20) + many("def f%d() {} ", 100), "on wait {} ", 200, 0);
    }

    private static void ownWords() {
        Bench.about("Term 1: 10 words of a thing or verb, fault 5 at the NAME with which it is too much");
        String ten = "a, b, c, d, e, f, g, h, i, j";
        Bench.builds(ROOM + "thing t \"T\" { word " + ten + "; } thing u \"U\" { word " + ten + "; } verb v " + ten + " one; verb w " + ten + " two a;");
        Bench.fault(ROOM + "thing t \"T\" { word " + ten + ", k; }", 5, 33 + ten.length() + 2);
        Bench.fault(ROOM + "thing t \"T\" { word " + ten + ", k, l; }", 5, 33 + ten.length() + 2);
        Bench.fault(ROOM + "thing t \"T\" { word " + ten + "; word k; }", 5, 33 + ten.length() + 7);
        String parts = ROOM + "thing t \"T\" { word a; word b, c, d, e, f, g, h, i; open; word j; word k; }";
        Bench.fault(parts, 5, parts.indexOf("k; }"));
        Bench.fault(ROOM + "verb v " + ten + ", k one;", 5, 21 + ten.length() + 2);
        Bench.fault(ROOM + "verb v " + ten + ", k, l two a;", 5, 21 + ten.length() + 2);
        Bench.fault(ROOM + "verb r " + ten + ", k one;", 4, 19);
        Bench.about("Term 1: all 10 words count");
        Bench bench = Bench.playing(ROOM + "thing t \"T\" { in r; word " + ten + "; } verb v ka, kb, kc, kd, ke, kf, kg, kh, ki, kj alone;");
        for (char c = 'a'; c <= 'j'; c++) {
            Bench.same("thing's word " + c, "1 You see nothing special.\n", bench.play("x " + c));
            Bench.same("verb's word k" + c, "1 Nothing happens.\n", bench.play("k" + c));
        }
    }
}
