/** Promises 3 and 4: build and place; the words, the grammar, and what stays if there is a fault. */
public final class BuildTest {
    private static final String ROOM = "room r \"R\" {} ";

    public static void main(String[] args) {
        words();
        items();
        blocks();
        nesting();
        names();
        meanings();
        circles();
        stays();
        anew();
        Bench.end();
    }

    private static void words() {
        Bench.builds("room r\"R\"{}var x=12;array y[1];each{say 1or 0,x+1in 3;}");
        Bench.builds("# nothing \" counts\nroom r \"# \" {} # to the end");
        Bench.builds(ROOM + "var abcdefghijkl = 0000000000000000032767;");
        Bench.builds(ROOM + "var a1b2 = -32767;");
        Bench.builds("room r \"" + "x".repeat(200) + "\" {}");
        Bench.builds("room r \"\" { text \"\"; }");
        Bench.builds(ROOM + "each { if 1<=2and 3>=2and 1==1and 1!=2{} }");
        Bench.fault("room r \"" + "x".repeat(201) + "\" {}", 1, 7);
        Bench.fault("room r \"a\nb\" {}", 1, 7);
        Bench.fault("room r \"", 1, 7);
        Bench.fault(ROOM + "var abcdefghijklm = 1;", 1, 18);
        Bench.fault(ROOM + "var x = 32768;", 1, 22);
        Bench.fault(ROOM + "var x = 99999999999999999999;", 1, 22);
        Bench.fault(ROOM + "Var", 1, 14);
        Bench.fault(ROOM + "!", 1, 14);
        Bench.fault(ROOM + "each { say 1 ! = 2; }", 1, 27);
        Bench.fault(ROOM + "each { say 1 = = 2; }", 2, 27);
        Bench.fault("room r ; \"", 2, 7);
        Bench.fault("# room", 6, 6);
        Bench.fault(ROOM + "12ab", 2, 14);
    }

    private static void items() {
        Bench.same("objects", 2, new Bench().build(ROOM));
        Bench.same("objects with a thing", 3, new Bench().build("thing t \"T\" {}" + ROOM));
        Bench.builds("room r \"R\" { text \"a\"; text \"b\"; dark; dark; exit up r; exit up r; }");
        Bench.builds(ROOM + "thing t \"T\" { container; fixed; hidden; light; open; supporter; in r; in player; word a, b; word c; }");
        Bench.builds(ROOM + "verb v a, b alone; verb w go one; verb x v two x;");
        Bench.builds(ROOM + "def f() {} def g(a, b, c, d, e, h) {} on look {} on take any {} on putin any player {} each {}");
        Bench.fault("", 6, 0);
        Bench.fault("room", 2, 4);
        Bench.fault("room look2", 2, 10);
        Bench.fault("room all \"R\" {}", 2, 5);
        Bench.fault("room r R", 1, 7);
        Bench.fault("room r \"R\" { dark }", 2, 18);
        Bench.fault("room r \"R\" { hidden; }", 2, 13);
        Bench.fault("room r \"R\" { exit r r; }", 2, 18);
        Bench.fault("room r \"R\" { exit up player; }", 2, 21);
        Bench.fault("room r \"R\" { in r; }", 2, 13);
        Bench.fault("thing t \"T\" { dark; }", 2, 14);
        Bench.fault("thing t \"T\" { word ; }", 2, 19);
        Bench.fault("thing t \"T\" { word light; }", 2, 19);
        Bench.fault("thing t \"T\" { in up; }", 2, 17);
        Bench.fault("verb v alone;", 2, 7);
        Bench.fault("verb v a b;", 2, 9);
        Bench.fault("verb v a two;", 2, 12);
        Bench.fault("var x = - - 1;", 2, 10);
        Bench.fault("var x 1;", 2, 6);
        Bench.fault("array a 3;", 2, 8);
        Bench.fault("array a [-3];", 2, 9);
        Bench.fault("def f {}", 2, 6);
        Bench.fault("def f(,) {}", 2, 6);
        Bench.fault("def f(a,) {}", 2, 8);
        Bench.fault("on take any any any {}", 2, 16);
        Bench.fault("on open {}", 2, 3);
        Bench.fault("each", 2, 4);
        Bench.fault(ROOM + "say 1;", 2, 14);
        Bench.fault("each { ", 2, 7);
    }

    private static void statement(String statement, int place) {
        String head = ROOM + "var x = 1; array a[2]; def f(p) {} each {";
        if (place < 0) {
            Bench.builds(head + statement + "}");
        } else {
            Bench.fault(head + statement + "}", 2, head.length() + place);
        }
    }

    private static void blocks() {
        for (String good : new String[] {
            "say \"a\", 1, name player, name holder player;", "let y = 1;", "x = -x - -x * 3 / 2 % 5;", "a[x] = a[a[0]];",
            "move player to r;", "remove noun;", "set here light;", "clear second supporter;", "if x {} else if not x {} else {}",
            "while x in r or x has open and not not x == 2 {}", "done;", "win;", "lose;", "f(1);", "f((f(f(2))));",
            "x = random 6 + first here + next player;", ""}) {
            statement(good, -1);
        }
        statement("say;", 3);
        statement("say 1,;", 6);
        statement("say (\"a\");", 5);
        statement("say name 1 + 2;", 11);
        statement("say name -1;", 9);
        statement("let 1 = 2;", 4);
        statement("let y 2;", 6);
        statement("x == 2;", 2);
        statement("x;", 1);
        statement("a[] = 1;", 2);
        statement("a[1] 2;", 5);
        statement("f(1)", 4);
        statement("f(1,);", 4);
        statement("move 1 2;", 7);
        statement("set 1 dark;", 6);
        statement("set 1;", 5);
        statement("x = 1 has dark;", 10);
        statement("x = 1 == 2 == 3;", 11);
        statement("x = 1 in 2 in 3;", 11);
        statement("x = 1 has open has open;", 15);
        statement("x = 1 + not 2;", 8);
        statement("x = ();", 5);
        statement("x = 1 +;", 7);
        statement("x = first;", 9);
        statement("x = first -1;", 10);
        statement("x = all;", 4);
        statement("if x;", 4);
        statement("if {}", 3);
        statement("else {}", 0);
        statement("while {}", 6);
        statement("done 1;", 5);
        statement("room q \"Q\" {}", 0);
    }

    private static void nesting() {
        String head = ROOM + "var x = 1; array a[2]; def f(p) {} each {";
        String[][] ways = {{"(", ")"}, {"-", ""}, {"f(", ")"}, {"a[", "]"}, {"holder ", ""}, {"first ", ""}, {"next ", ""},
            {"random ", ""}, {"not ", ""}};
        for (String[] way : ways) {
            Bench.builds(head + "x=" + way[0].repeat(29) + "1" + way[1].repeat(29) + ";}");
            int at = head.length() + 2 + way[0].repeat(29).length() + way[0].length() - 1;
            int place = way[0].endsWith("(") || way[0].endsWith("[") ? at : at - way[0].length() + 1;
            Bench.fault(head + "x=" + way[0].repeat(30) + "1" + way[1].repeat(30) + ";}", 5, place);
        }
        Bench.builds(head + "if 1 {".repeat(29) + "}".repeat(30));
        Bench.fault(head + "if 1 {".repeat(30) + "}".repeat(31), 5, head.length() + 29 * 6 + 5);
        Bench.builds(head + "if 1 {}" + " else if 1 {}".repeat(28) + "}");
        Bench.fault(head + "if 1 {}" + " else if 1 {}".repeat(29) + "}", 5, head.length() + 7 + 28 * 13 + 11);
        Bench.fault(head + "if 1 {}" + " else if 1 {}".repeat(30) + "}", 5, head.length() + 7 + 28 * 13 + 11);
        Bench.builds(head + "if 1 {}" + " else if 1 {}".repeat(28) + "if 1 {}" + " else if 1 {}".repeat(28) + "}");
        Bench.builds(head + "x=" + "-1-(".repeat(29) + "1" + ")".repeat(29) + ";}");
        for (String beside : new String[] {"holder 1", "f(1)", "a[1]", "(1)", "-1", "f(a[-(1)])", "random random 1"}) {
            Bench.builds(head + "x=" + (beside + "+").repeat(60) + "1;}");
            Bench.builds(head + ("if " + beside + "{} else if 1 {}").repeat(40) + "}");
        }
        Bench.builds(head + "x=" + "not 1 or not 1 and ".repeat(40) + "1;}");
        Bench.builds(head + "f(1);".repeat(40) + "a[1]=2;".repeat(40) + "}");
    }

    private static void names() {
        Bench.fault(ROOM + "thing r \"T\" {}", 4, 20);
        Bench.fault(ROOM + "def look() {}", 4, 18);
        Bench.fault(ROOM + "verb puton a alone;", 4, 19);
        Bench.fault(ROOM + "each { let x = 1; } var x = 1;", 4, 25);
        Bench.fault(ROOM + "each { let take = 1; }", 4, 25);
        Bench.fault(ROOM + "def f(f) {}", 4, 20);
        Bench.fault(ROOM + "def f(a, b, a) {}", 4, 26);
        Bench.fault(ROOM + "def f(a) { let a = 1; }", 4, 29);
        Bench.fault(ROOM + "each { let a = 1; if 1 { let a = 2; } }", 4, 43);
        Bench.builds(ROOM + "each { if 1 { let a = 1; } let a = 2; while a { let b = a; } let b = 3; }");
        Bench.builds(ROOM + "def f(a) {} def g(a) {} each { let a = 1; }");
        Bench.builds(ROOM + "thing t \"T\" { word r, t, look; }");
        // The second going is behind the first one, the third behind the second one.
        Bench.fault(ROOM + "each { x = 1; } var r = 2;", 4, 34);
        Bench.fault(ROOM + "each { x = 1; } var r = 2; ;", 2, 41);
    }

    private static void meanings() {
        Bench.fault("room r \"R\" { exit up t; } thing t \"T\" {}", 3, 21);
        Bench.fault("room r \"R\" { exit up q; exit up r; }", 3, 21);
        Bench.builds("thing t \"T\" { in u; } thing u \"U\" { in r; } room r \"R\" { exit up s; } room s \"S\" {}");
        Bench.fault(ROOM + "thing t \"T\" { in look; }", 3, 31);
        Bench.fault(ROOM + "var x = 1; on x {}", 3, 28);
        Bench.fault(ROOM + "on jump {} each { y = 1; }", 3, 17);
        Bench.builds(ROOM + "on jump any {} verb jump jump one;");
        Bench.fault(ROOM + "on wait any {}", 3, 22);
        Bench.fault(ROOM + "on take any any {}", 3, 26);
        Bench.fault(ROOM + "on putin any any any {}", 2, 31);
        Bench.fault(ROOM + "on go any any {}", 3, 24);
        Bench.builds(ROOM + "on go {} on go any {} on go north {} on go up {} on go down {} on take player {}");
        Bench.fault(ROOM + "on go player {}", 3, 20);
        Bench.fault(ROOM + "on take up {}", 3, 22);
        Bench.fault(ROOM + "on take r {}", 3, 22);
        Bench.fault(ROOM + "verb v v two at; on v any r {}", 3, 40);
        Bench.fault(ROOM + "each { r = 1; }", 3, 21);
        Bench.fault(ROOM + "each { look = 1; }", 3, 21);
        Bench.fault(ROOM + "array a[2]; each { a = 1; }", 3, 33);
        Bench.fault(ROOM + "array a[2]; each { say a; }", 3, 37);
        Bench.fault(ROOM + "var x = 1; each { x[1] = 1; }", 3, 32);
        Bench.fault(ROOM + "each { let y = 1; say y[0]; }", 3, 36);
        Bench.fault(ROOM + "each { let y = 1; y(); }", 3, 32);
        Bench.fault(ROOM + "def f() {} each { say f; }", 3, 36);
        Bench.fault(ROOM + "def f() {} each { say f(1); }", 3, 36);
        Bench.fault(ROOM + "def f(a) {} each { f(f()); }", 3, 35);
        Bench.fault(ROOM + "def f(a) {} each { f(q, 1); }", 3, 33);
        Bench.fault(ROOM + "each { say wait; }", 3, 25);
        Bench.fault(ROOM + "each { let y = y; }", 3, 29);
        Bench.fault(ROOM + "each { if 1 { let y = 1; } say y; }", 3, 45);
        Bench.fault(ROOM + "def f(a) {} each { say a; }", 3, 37);
        Bench.fault(ROOM + "each { return 1; }", 3, 21);
        Bench.fault(ROOM + "on look { return 1; }", 3, 24);
        Bench.fault(ROOM + "def f() { if 1 { done; } }", 3, 31);
        Bench.builds(ROOM + "def f() { win; } on look { done; } each { lose; }");
    }

    private static void circles() {
        String end = "thing t \"T\" { in t; } ";
        Bench.fault(ROOM + end, 6, ROOM.length() + end.length());
        Bench.fault("thing t \"T\" {}", 6, 14);
        String circle = "thing t \"T\" { in u; } thing u \"U\" { in v; } thing v \"V\" { in t; }";
        Bench.fault(ROOM + circle, 6, ROOM.length() + circle.length());
        Bench.builds(ROOM + "thing t \"T\" { in t; in r; }");
        Bench.builds(ROOM + "thing t \"T\" { in t; in player; } thing u \"U\" { in t; }");
        Bench.fault("thing t \"T\" { in q; }", 3, 17);
    }

    /** Nothing of a source is left in the next ones, whether it had a fault or not. */
    private static void anew() {
        Bench bench = new Bench();
        Bench.same("a fault with names seen", -4, bench.build(ROOM + "def f(p) { let y = 1; if 1 { let z = 2; let r = 3; } }"));
        Bench.same("the same names again", 2, bench.build("room r \"R\" {} var y = 1; each { let z = y; if 1 { let p = z; } }"));
        Bench.same("a fault behind a let", -4, bench.build(ROOM + "each { let r = 3; }"));
        Bench.same("and again", 3, bench.build("thing t \"T\" { word r; } room r \"R\" { exit up r; } each { let p = r; say p; }"));
        Bench.same("a var", 2, bench.build(ROOM + "var y = 1;"));
        Bench.same("no var any more", -3, bench.build(ROOM + "each { y = 1; }"));
        Bench.same("lets of many routines", 2, bench.build(ROOM + "each { let y = 1; let z = y; if y { let x = 1; } } ".repeat(15)));
        for (int i = 0; i < 2; i++) {
            bench.build("room r \"R\" { dark; text \"x\"; exit up s; } room s \"S\" {} thing t \"T\" { in r; word tt; light; } "
                    + "def f() { say 7; } on wait { say 8; done; } each { say 9; }");
        }
        bench.build("room r \"R\" {} thing s \"S\" { word tt; } thing t \"T\" { in r; } on wait { say t in 0; move player to s; }");
        bench.house.begin(1);
        Bench.same("no text, not dark", "R\nThere is T here.\n", bench.out());
        Bench.same("no room any more", "2 [break 2]\n", bench.play("z"));
        Bench.same("no exit", "1 You can not go there.\n", bench.play("up"));
        Bench.same("another's word", "0 You see no such thing.\n", bench.play("x tt"));
        Bench.same("no attributes", false, bench.house.has(2, 6) || bench.house.has(4, 3));
        for (int i = 0; i < 50; i++) {
            String text = ("" + (char) ('a' + i % 26)).repeat(200);
            Bench.same("built " + i, 2, bench.build("room r \"R\" { text \"" + text + "\"; } " + ("def f() { say \"" + text + "\"; }")
                    + " on wait { say " + i + "; f(); done; } each { say \"" + text + "\"; }"));
            bench.house.begin(i);
            Bench.same("told " + i, "R\n" + text + "\n", bench.out());
            Bench.same("played " + i, "1 " + i + text + text, bench.play("z"));
            Bench.same("sound " + i, true, bench.house.sound());
        }
    }

    private static void stays() {
        Bench bench = Bench.playing("room r \"Old\" {} thing t \"T\" {} var x = 7;");
        for (int place = 0; place < 4; place++) {
            bench.house.save(place);
        }
        Bench.same("a fault", -3, bench.build("room r \"New\" {} each { q = 1; }"));
        Bench.same("its place", 23, bench.house.place());
        Bench.same("objects stay", 3, bench.house.told(0));
        Bench.same("the play stays", 7, bench.house.value(0));
        Bench.same("it goes on", "1 Old\n", bench.play("look"));
        bench.house.restore(2);
        Bench.same("the place stays", 23, bench.house.place());
        Bench.same("built anew", 2, bench.build("room r \"New\" {}"));
        Bench.same("no place", StoryHouse.NONE, bench.house.place());
        Bench.refuses("no play", IllegalStateException.class, bench.house::enter);
        for (int place = 0; place < 4; place++) {
            int left = place;
            Bench.refuses("nothing saved", IllegalStateException.class, () -> bench.house.restore(left));
        }
        Bench.refuses("no such object", IndexOutOfBoundsException.class, () -> bench.house.holder(3));
        Bench.refuses("not played", IllegalStateException.class, () -> bench.house.holder(2));
        bench.house.begin(0);
        Bench.same("the new one", "New\n", bench.out());
    }
}
