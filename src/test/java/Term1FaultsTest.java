/** Term 1, FAULTS: which one is the first that there is, and where it is. */
public final class Term1FaultsTest {
    private static final String ROOM = "room r \"R\" {} ";

    public static void main(String[] args) {
        threeGoings();
        firstGoing();
        secondGoing();
        roomsAndThings();
        whats();
        formsOfWhats();
        namesThatGetNumbers();
        arraysAndDefs();
        primaries();
        returnAndDone();
        roomsAndCircles();
        noneIsLeft();
        Bench.end();
    }

    private static void body(String statement, int place) {
        String head = ROOM + "thing t \"T\" {} verb v v alone; var x = 1; array a[2]; def f(p) {} def g() {} each { let y = 1; ";
        if (place < 0) {
            Bench.builds(head + statement + " }");
        } else {
            Bench.fault(head + statement + " }", 3, head.length() + place);
        }
    }

    private static void threeGoings() {
        Bench.about("Term 1: the first fault, by three goings through, each from the first byte on");
        Bench.fault(ROOM + "each { x = 1; } var r = 1; !", 1, 41);
        Bench.fault(ROOM + "each { x = 1; } var r = 1; ;", 2, 41);
        Bench.fault(ROOM + "each { x = 1; } var r = 1; each { x = " + "(".repeat(30) + " }", 5, 52 + 29);
        Bench.fault(ROOM + "each { x = 1; } var r = 1;", 4, 34);
        Bench.fault(ROOM + "each { x = 1; } array b[401];", 5, 38);
        Bench.fault(ROOM + "each { x = 1; }", 3, 21);
        Bench.fault("thing t \"T\" { in t; } each { x = 1; }", 3, 29);
        Bench.fault("thing t \"T\" { in t; }", 6, 21);
        Bench.about("Term 1: within one going, the one that stands first");
        Bench.fault("room ; !", 2, 5);
        Bench.fault("room ! ;", 1, 5);
        Bench.fault("room r ; \"", 2, 7);
        Bench.fault("room r \"R ;", 1, 7);
        Bench.fault(ROOM + "array b[401]; var r = 1;", 5, 22);
        Bench.fault(ROOM + "var r = 1; array b[401];", 4, 18);
        Bench.fault(ROOM + "each { let r = 1; } each {" + " ".repeat(4000) + "}", 4, 25);
        Bench.fault(ROOM + "on jump {} each { done; x = 1; return 1; }", 3, 17);
        Bench.fault(ROOM + "each { return 1; } on jump {}", 3, 21);
    }

    private static void firstGoing() {
        Bench.about("Term 1: fault 2 at the SOURCE's end, when a word lacks");
        Bench.fault("room r \"R\" {}\neach {\n\n", 2, 22);
        Bench.fault("room r \"R\" { # }", 2, 16);
        Bench.fault("room  ", 2, 6);
        Bench.fault(ROOM + "each { if 1 {", 2, 27);
        Bench.about("Term 1: the 31st is fault 5 at it, met in the first going");
        String deep = ROOM + "each { say " + "(".repeat(30);
        Bench.fault(deep, 5, deep.length() - 1);
        Bench.fault(deep + "!", 5, deep.length() - 1);
        Bench.fault(deep + " ; ;", 5, deep.length() - 1);
        String less = ROOM + "each { say " + "(".repeat(29);
        Bench.fault(less, 2, less.length());
        Bench.fault(less + "!", 1, less.length());
        Bench.fault(less + "{", 2, less.length());
        Bench.fault(less + "[", 2, less.length());
        Bench.fault(less + "1 {", 2, less.length() + 2);
        Bench.fault(less + "f(", 5, less.length() + 1);
        Bench.fault(less + "holder ;", 5, less.length());
        Bench.fault(less + "not ;", 5, less.length());
        Bench.fault(ROOM + "! " + "(".repeat(40), 1, 14);
    }

    private static void secondGoing() {
        Bench.about("Term 1: 5, of one NAME behind 4");
        Bench.fault(ROOM + many("var x%d = 1; ", 100) + "var x0 = 1;", 4, ROOM.length() + many("var x%d = 1; ", 100).length() + 4);
        Bench.fault(ROOM + "def f(a, b, c, d, e, g, f) {}", 4, 38);
        Bench.fault(ROOM + "def f(a, b, c, d, e, g, h, a) {}", 5, 38);
        Bench.about("Term 1: of a let or a list, told by any item, or seen there; of an item, told by one before it");
        Bench.fault(ROOM + "each { let q = 1; } thing q \"Q\" {}", 4, 25);
        Bench.fault(ROOM + "def f(q) {} thing q \"Q\" {}", 4, 20);
        Bench.fault(ROOM + "thing q \"Q\" {} thing q \"Q\" {} each { let q = 1; }", 4, 35);
        Bench.builds(ROOM + "each { if 1 { let q = 1; } if 1 { let q = 1; } } each { let q = 1; }");
    }

    private static String many(String item, int count) {
        StringBuilder text = new StringBuilder();
        for (int i = 0; i < count; i++) {
            text.append(item.replace("%d", "" + i));
        }
        return text.toString();
    }

    private static void roomsAndThings() {
        Bench.about("Term 1: fault 3 at a NAME that is no room at exit");
        String others = "thing t \"T\" {} verb v v alone; var x = 1; array a[2]; def f() {} ";
        for (String other : new String[] {"t", "v", "x", "a", "f", "look", "go", "q", "up2"}) {
            Bench.fault(others + "room r \"R\" { exit up " + other + "; }", 3, others.length() + 21);
            Bench.fault("room r \"R\" { exit up " + other + "; exit up r; } " + others, 3, 21);
        }
        Bench.builds("room r \"R\" { exit up s; exit down r; } room s \"S\" { exit up r; } ");
        Bench.about("Term 1: fault 3 at a NAME that is no room or thing at in");
        for (String other : new String[] {"v", "x", "a", "f", "look", "go", "q"}) {
            Bench.fault(others + ROOM + "thing u \"U\" { in " + other + "; }", 3, others.length() + 31);
            Bench.fault(ROOM + "thing u \"U\" { in " + other + "; in r; } " + others, 3, 31);
        }
        Bench.builds(ROOM + "thing u \"U\" { in t; } thing t \"T\" { in s; } room s \"S\" {} thing w \"W\" { in player; } thing z \"Z\" { in u; }");
        Bench.about("Term 1: fault 3 at a NAME that is no verb at on");
        for (String other : new String[] {"r", "t", "x", "a", "f", "q", "l", "put"}) {
            Bench.fault(ROOM + others + "on " + other + " {}", 3, ROOM.length() + others.length() + 3);
        }
        for (String verb : "look inventory wait take drop examine close putin puton go v".split(" ")) {
            Bench.builds(ROOM + others + "on " + verb + " {}");
            Bench.builds(ROOM + "on " + verb + " {} " + others);
        }
    }

    private static void whats() {
        Bench.about("Term 1: fault 3 at what is no thing as WHAT (the player is one)");
        String others = ROOM + "thing t \"T\" {} verb v v alone; var x = 1; array a[2]; def f() {} ";
        for (String other : new String[] {"r", "v", "x", "a", "f", "q", "look", "north", "up"}) {
            Bench.fault(others + "on take " + other + " {}", 3, others.length() + 8);
            Bench.fault(others + "on putin " + other + " t {}", 3, others.length() + 9);
            Bench.fault(others + "on puton t " + other + " {}", 3, others.length() + 11);
        }
        Bench.builds(others + "on take t {} on take player {} on take any {} on putin t player {} on puton any t {} on drop u {} thing u \"U\" {}");
        Bench.about("Term 1: with go a DIRECTION");
        for (String direction : "north south east west up down any".split(" ")) {
            Bench.builds(ROOM + "on go " + direction + " {}");
        }
        for (String other : new String[] {"t", "player", "r", "q"}) {
            Bench.fault(others + "on go " + other + " {}", 3, others.length() + 6);
        }
    }

    private static void formsOfWhats() {
        Bench.about("Term 1: not more WHATs than its FORM has nouns (go has one)");
        for (String alone : new String[] {"look", "inventory", "wait", "v"}) {
            String head = ROOM + "verb v v alone; on " + alone;
            Bench.builds(head + " {}");
            Bench.fault(head + " any {}", 3, head.length() + 1);
            Bench.fault(head + " player player {}", 3, head.length() + 1);
            Bench.fault(head + " q {}", 3, head.length() + 1);
        }
        for (String one : new String[] {"take", "drop", "examine", "close", "go", "v"}) {
            String head = ROOM + "verb v v one; on " + one;
            Bench.builds(head + " {}");
            Bench.builds(head + " any {}");
            Bench.fault(head + " any any {}", 3, head.length() + 5);
            Bench.fault(head + " any q {}", 3, head.length() + 5);
            Bench.fault(head + " q any {}", 3, head.length() + 1);
        }
        for (String two : new String[] {"putin", "puton", "v"}) {
            String head = ROOM + "on " + two;
            Bench.builds(head + " {} verb v v two v;");
            Bench.builds(head + " any {} verb v v two v;");
            Bench.builds(head + " any any {} verb v v two v;");
            Bench.fault(head + " any any any {} verb v v two v;", 2, head.length() + 9);
        }
    }

    private static void namesThatGetNumbers() {
        Bench.about("Term 1: fault 3 at what is no var or seen NAME that gets a number");
        body("x = 1; y = 2; if y { y = x; }", -1);
        for (String other : new String[] {"r", "t", "v", "a", "f", "q", "look", "p"}) {
            body(other + " = 1;", 0);
            body("if 1 { " + other + " = q; }", 7);
        }
        body("let z = q;", 8);
        body("x = q;", 4);
        body("let z = z;", 8);
        body("z = 1; let z = 1;", 0);
    }

    private static void arraysAndDefs() {
        Bench.about("Term 1: fault 3 at what is no array with [");
        body("a[0] = a[1]; a[a[0]] = 1;", -1);
        for (String other : new String[] {"r", "t", "v", "x", "y", "f", "q", "look"}) {
            body(other + "[0] = 1;", 0);
            body("say " + other + "[0];", 4);
            body("a[" + other + "[0]] = 1;", 2);
        }
        Bench.about("Term 1: fault 3 at what is no def with ( and as many expressions as its list has");
        body("f(1); g(); f(g()); say f(f(1)); later(1, 2);", 32);
        Bench.builds(ROOM + "each { later(1, 2); } def later(a, b) {}");
        for (String other : new String[] {"r", "t", "v", "x", "y", "a", "q", "look"}) {
            body(other + "(1);", 0);
            body("say " + other + "();", 4);
        }
        body("f();", 0);
        body("f(1, 2);", 0);
        body("g(1);", 0);
        body("f(f());", 2);
        body("f(q);", 2);
        body("f(q, 1);", 0);
        body("g(q);", 0);
        body("say f(1), g(), g(g());", 15);
        Bench.builds(ROOM + "def s(a, b, c, d, e, g) { s(1, 2, 3, 4, 5, 6); }");
        Bench.fault(ROOM + "def s(a, b, c, d, e, g) { s(1, 2, 3, 4, 5); }", 3, 40);
        Bench.fault(ROOM + "def s(a, b, c, d, e, g) { s(1, 2, 3, 4, 5, 6, 7); }", 3, 40);
    }

    private static void primaries() {
        Bench.about("Term 1: a NAME as a primary is a room, thing, var, or seen one");
        body("say r, t, x, y; move t to r; remove t; set r light; x = holder t; if r in t {} while x - x {} say name r;", -1);
        for (String other : new String[] {"v", "a", "f", "q", "look", "p"}) {
            body("say " + other + ";", 4);
            body("say name " + other + ";", 9);
            body("x = 1 + " + other + ";", 8);
            body("x = holder " + other + ";", 11);
            body("move " + other + " to r;", 5);
            body("move t to " + other + ";", 10);
            body("remove " + other + ";", 7);
            body("set " + other + " open;", 4);
            body("clear " + other + " open;", 6);
            body("if " + other + " {}", 3);
            body("while " + other + " {}", 6);
            body("a[" + other + "] = 1;", 2);
            body("a[0] = " + other + ";", 7);
            body("f(" + other + ");", 2);
        }
        Bench.fault(ROOM + "def f(p) { return q; }", 3, 32);
        Bench.builds(ROOM + "def f(p) { return p; }");
    }

    private static void returnAndDone() {
        Bench.about("Term 1: return is in a def alone, done in an on or each alone");
        Bench.fault(ROOM + "each { return 1; }", 3, 21);
        Bench.fault(ROOM + "on look { return 1; }", 3, 24);
        Bench.fault(ROOM + "each { if 1 { while 0 { return q; } } }", 3, 38);
        Bench.fault(ROOM + "def f() { done; }", 3, 24);
        Bench.fault(ROOM + "def f() { if 1 {} else { done; } }", 3, 39);
        Bench.builds(ROOM + "def f() { return 1; if 1 { return 2; } win; lose; } on look { done; win; lose; } each { done; win; lose; }");
        Bench.builds(ROOM + "each { done; } def f() { return 1; } each { done; } on look { done; } def g() { return 1; }");
    }

    private static void roomsAndCircles() {
        Bench.about("Term 1: 6, with the place of the SOURCE's end, there is no room");
        Bench.fault("", 6, 0);
        Bench.fault("   ", 6, 3);
        Bench.fault("thing t \"T\" {}", 6, 14);
        Bench.fault("thing t \"T\" { in player; } # no room\n ", 6, 38);
        Bench.fault("var x = 1; each { x = 2; }", 6, 26);
        Bench.builds("thing t \"T\" {} room r \"R\" {}");
        Bench.about("Term 1: 6, some thing is in itself, or in what is in it");
        Bench.fault(ROOM + "thing t \"T\" { in t; }", 6, 35);
        Bench.fault(ROOM + "thing t \"T\" { in r; in t; } ", 6, 42);
        Bench.builds(ROOM + "thing t \"T\" { in t; in r; }");
        Bench.builds(ROOM + "thing t \"T\" { in t; in player; } thing u \"U\" { in t; }");
        String two = ROOM + "thing t \"T\" { in u; } thing u \"U\" { in t; }";
        Bench.fault(two, 6, two.length());
        Bench.fault(two + " thing w \"W\" { in r; }\n", 6, two.length() + 23);
        Bench.builds(ROOM + "thing t \"T\" { in u; } thing u \"U\" { in t; in r; }");
        StringBuilder chain = new StringBuilder(ROOM);
        for (int i = 0; i < 118; i++) {
            chain.append("thing t").append(i).append(" \"\" { in t").append(i + 1).append("; } ");
        }
        Bench.fault(chain.toString().replace("in t118", "in t0"), 6, chain.length() - 2);
        Bench.fault(chain.toString().replace("in t118", "in t117"), 6, chain.length());
        Bench.fault(chain.toString().replace("in t118", "in t50"), 6, chain.length() - 1);
        Bench.builds(chain.toString().replace("in t118", "in r"));
        Bench.builds(chain.toString().replace("in t118", "in player"));
        Bench.builds(chain.toString().replace("in t118; ", ""));
    }

    private static void noneIsLeft() {
        Bench.about("Promise 3: each build is of its own TAPE alone");
        Bench bench = new Bench();
        Bench.same("a fault", -4, bench.build(ROOM + "def f(p) { let y = 1; if 1 { let z = 2; let r = 3; } }"));
        Bench.same("the same names, not told any more", -3, bench.build(ROOM + "each { say y; }"));
        Bench.same("the same names anew", 2, bench.build("room z \"Z\" {} var y = 1; each { let r = y; if 1 { let p = r; } }"));
        Bench.same("nest begins anew", -5, bench.build(ROOM + "each { say " + "(".repeat(40)));
        Bench.same("and is free", 2, bench.build(ROOM + "each { say " + "(".repeat(29) + "1" + ")".repeat(29) + "; }"));
        Bench.same("lets begin anew", -5, bench.build(ROOM + "each { " + many("let y%d = 1; ", 15) + "}"));
        Bench.same("and are free", 2, bench.build(ROOM + "each { " + many("let y%d = 1; ", 14) + "}"));
        Bench.same("words begin anew", -5, bench.build(ROOM + "thing t \"T\" { word a, b, c, d, e, f, g, h, i, j, k; }"));
        Bench.same("and are free, too", 3, bench.build(ROOM + "thing t \"T\" { word a, b, c, d, e, f, g, h, i, j; }"));
        Bench.same("cells begin anew", -5, bench.build(ROOM + "array a[400]; array b[400]; array c[400];"));
        Bench.same("and are free as well", 2, bench.build(ROOM + "array a[400]; array b[400]; array c[200];"));
    }
}
