/** Promise 3: how much of everything a story may have, and fault 5 with the first that is too much. */
public final class LimitsTest {
    private static final String ROOM = "room r \"R\" {} ";

    public static void main(String[] args) {
        counted("thing t%d \"T\" {} ", 118, "thing ".length());
        counted("room q%d \"Q\" {} ", 118, "room ".length());
        counted("verb v%d v alone; ", 49, "verb ".length());
        counted("var x%d = 1; ", 100, "var ".length());
        counted("array a%d [1]; ", 20, "array ".length());
        counted("def f%d() {} ", 100, "def ".length());
        counted("on look {} ", 200, 0);
        counted("each {} ", 20, 0);
        cells();
        ownWords();
        locals();
        bytes();
        lastOnes();
        Bench.end();
    }

    private static String many(String item, int count) {
        StringBuilder text = new StringBuilder(ROOM);
        for (int i = 0; i < count; i++) {
            text.append(item.replace("%d", "" + i));
        }
        return text.toString();
    }

    private static void counted(String item, int most, int place) {
        Bench.builds(many(item, most));
        Bench.fault(many(item, most + 1), 5, many(item, most).length() + place);
        Bench.fault(many(item, most + 2) + "q;", 2, many(item, most + 2).length());
    }

    private static void cells() {
        Bench.builds(ROOM + "array a[400]; array b[400]; array c[200];");
        Bench.fault(ROOM + "array a[400]; array b[400]; array c[201];", 5, 50);
        Bench.fault(ROOM + "array a[0];", 5, 22);
        Bench.fault(ROOM + "array a[401];", 5, 22);
        Bench.fault(ROOM + "array r[401];", 4, 20);
    }

    private static void ownWords() {
        String ten = "a, b, c, d, e, f, g, h, i, j";
        Bench.builds(ROOM + "thing t \"T\" { word " + ten + "; } thing u \"U\" { word " + ten + "; }");
        Bench.builds(ROOM + "verb v " + ten + " one;");
        Bench.fault(ROOM + "thing t \"T\" { word " + ten + ", k; }", 5, 33 + ten.length() + 2);
        Bench.fault(ROOM + "thing t \"T\" { word " + ten + "; word k; }", 5, 33 + ten.length() + 7);
        Bench.fault(ROOM + "verb v " + ten + ", k one;", 5, 21 + ten.length() + 2);
    }

    private static void locals() {
        StringBuilder lets = new StringBuilder();
        for (int i = 0; i < 8; i++) {
            lets.append("if 1 { let y").append(i).append(" = 1; } ");
        }
        String list = "def f(a, b, c, d, e, g) { ";
        Bench.builds(ROOM + list + lets + "}");
        Bench.fault(ROOM + list + lets + "let z = 1; }", 5, ROOM.length() + list.length() + lets.length() + 4);
        Bench.fault(ROOM + "def f(a, b, c, d, e, g, h) {}", 5, 38);
        Bench.fault(ROOM + "def f(a, b, c, d, e, g, a) {}", 4, 38);
        String each = "each { " + lets + lets.toString().replace('y', 'z');
        Bench.fault(ROOM + each + "}", 5, ROOM.length() + each.indexOf("z6"));
        Bench.builds(ROOM + (each + "}").replace("let z6", "say 1 +").replace("let z7", "say 1 +").replace("+ =", "+"));
    }

    /** The last of each kind that a story may have does all that the others do. */
    private static void lastOnes() {
        String head = "room r \"R\" {}" + many("thing t%d \"\"{}", 116).substring(ROOM.length());
        String objects = head + "room s \"S\" { dark; exit up r; exit down s; } thing u \"U\" { in s; word uu; container; open; text \"It.\"; } "
                + "each { if here == r { move player to s; move t0 to u; set u light; } say u; }";
        Bench bench = new Bench();
        Bench.same("120 objects", 120, bench.build(objects));
        bench.house.begin(1);
        Bench.same("to the last room", "1 Time passes.\n120", bench.play("z"));
        Bench.same("the last thing there", 120, bench.house.first(1, true));
        Bench.same("what is in it", 3, bench.house.first(120, false));
        Bench.same("its attributes", true, bench.house.has(120, 0) && bench.house.has(120, 3) && bench.house.has(119, 6));
        Bench.same("seen", "1 It.\n120", bench.play("x uu"));
        Bench.same("taken", "1 Taken.\n120", bench.play("take uu"));
        Bench.same("the last room's exits", "1 S\n120", bench.play("d"));
        bench.house.undo();
        Bench.same("sound", true, bench.house.sound());
        bench = Bench.playing("room r \"R\" {}" + many("verb v%d vv alone;", 48).substring(ROOM.length())
                + "verb w ww two with; on w player player { say 60; done; }");
        Bench.same("60 verbs", 60, bench.house.told(1));
        Bench.same("the last verb", "1 60", bench.play("ww me with me"));
        bench = Bench.playing(ROOM + many("var x%d=1;", 99).substring(ROOM.length()) + "var y=-8;"
                + many("array a%d[10];", 18).substring(ROOM.length()) + "array b[400];array c[400];"
                + many("def f%d(){}", 98).substring(ROOM.length()) + "def g(){ y = y * 2; c[399] = 5; b[0] = 6; } def last() { g(); }"
                + many("on look{}", 199).substring(ROOM.length()) + "on wait { last(); done; }" + many("each{}", 19).substring(ROOM.length())
                + "each { y = y - 1; }");
        Bench.same("all of a turn", "1 ", bench.play("z"));
        Bench.same("the last var", -17, bench.house.value(99));
        Bench.same("the last cells", "5 6 0", bench.house.cell(19, 399) + " " + bench.house.cell(18, 0) + " " + bench.house.cell(19, 0));
        Bench.same("sound with all", true, bench.house.sound());
    }

    private static void bytes() {
        Bench.builds(ROOM + "def f() {" + " ".repeat(3990) + "} def g() {}");
        Bench.fault(ROOM + "def f() {" + " ".repeat(3991) + "} def g() {}", 5, 18);
        Bench.builds(ROOM + "on look {" + " ".repeat(3990) + "}");
        Bench.fault(ROOM + "on look {" + " ".repeat(3991) + "}", 5, 14);
        Bench.builds(ROOM + "each {" + " ".repeat(3993) + "}");
        Bench.fault(ROOM + "each {" + " ".repeat(3994) + "}", 5, 14);
    }
}
