/** Term 2, BREAKS: each of 1 .. 6 at its boundary, which of several counts, and that all is as before then. */
public final class Term2BreaksTest {
    private static final String ITEMS = "thing a \"A\" { in r; word aa; } thing b \"B\" { in a; } thing c \"C\" { in b; } "
            + "var x = 5; array t[3]; array one1[1]; def f(n) { x = x + 1; return n * 2; } def g() { x = x + 1; } "
            + "def down1(n) { if n == 0 { return 0; } return down1(n - 1) + 1; } ";
    private static final String LEAST = "(-32767 - 1)";
    // The last OBJECT is the room q, 6.
    private static final String[] NO_OBJECTS = {"0", "-1", "7", "120", "121", "255", "257", "32767", LEAST};
    private static final String[] OBJECTS = {"1", "2", "3", "4", "5", "6"};

    public static void main(String[] args) {
        divided();
        objectsWanted();
        whatCanNotBeMoved();
        movedIntoItself();
        cells();
        callsWithin();
        passes();
        callsAndPasses();
        oneTurn();
        sixBeforeFive();
        workedOutFirst();
        ofSeveral();
        tellingForItself();
        allIsAsBefore();
        wherever();
        Bench.end();
    }

    private static Bench house(String statements) {
        return Bench.playing("room r \"R\" {} " + ITEMS + "room q \"Q\" {} on wait { say \"lost\"; x = 77; " + statements + " done; }");
    }

    private static void breaks(String statements, int number) {
        Bench bench = house(statements);
        Bench.same(statements, "2 [break " + number + "]\n", bench.play("z"));
        Bench.same("var behind " + statements, 5, bench.house.value(0));
        Bench.same("sound behind " + statements, true, bench.house.sound());
    }

    private static void holds(String statements) {
        Bench.same(statements, 1, house(statements).play("z").charAt(0) - '0');
    }

    private static void divided() {
        Bench.about("Term 2: break 1: divided by 0");
        breaks("x = 1 / 0;", 1);
        breaks("x = 1 % 0;", 1);
        breaks("x = 0 / 0;", 1);
        breaks("x = " + LEAST + " % (x - x);", 1);
        breaks("say 5 / holder q;", 1);
        breaks("if 1 / 0 {}", 1);
        breaks("while 1 % 0 {}", 1);
        holds("x = 0 / 1 + 0 % -1;");
    }

    private static void objectsWanted() {
        Bench.about("Term 2: break 2: an OBJECT is wanted, and the number is none");
        for (String none : NO_OBJECTS) {
            breaks("x = holder (" + none + ");", 2);
            breaks("x = first (" + none + ");", 2);
            breaks("x = next (" + none + ");", 2);
            breaks("x = " + none + " in r;", 2);
            breaks("x = " + none + " in " + none + ";", 2);
            breaks("x = " + none + " has open;", 2);
            breaks("move " + none + " to r;", 2);
            breaks("move a to " + none + ";", 2);
            breaks("move " + none + " to " + none + ";", 2);
            breaks("remove " + none + ";", 2);
            breaks("set " + none + " open;", 2);
            breaks("clear " + none + " open;", 2);
            breaks("say name (" + none + ");", 2);
            holds("x = a in " + none + ";");
        }
        breaks("x = holder holder q;", 2);
        breaks("x = noun has light;", 2);
        for (String object : OBJECTS) {
            holds("x = holder " + object + " + first " + object + " + next " + object + "; x = " + object + " in 0; x = " + object + " has fixed; set "
                    + object + " light; clear " + object + " open; say name " + object + "; move a to " + (object.equals("3") || object.equals("4")
                    || object.equals("5") ? "r" : object) + ";");
        }
    }

    private static void whatCanNotBeMoved() {
        Bench.about("Term 2: break 2: what can't be moved or removed so (rooms; the player removed, or moved to no room)");
        for (String object : OBJECTS) {
            breaks("move r to " + object + ";", 2);
            breaks("move q to " + object + ";", 2);
        }
        breaks("remove r;", 2);
        breaks("remove q;", 2);
        breaks("remove player;", 2);
        for (String noRoom : new String[] {"player", "a", "b", "c", "0", "7"}) {
            breaks("move player to " + noRoom + ";", 2);
        }
        holds("move player to q; move player to r; move player to here;");
        holds("remove a; remove a; remove b; remove c;");
    }

    private static void movedIntoItself() {
        Bench.about("Term 2: break 3: moved into itself, or what is in it");
        breaks("move a to a;", 3);
        breaks("move a to b;", 3);
        breaks("move a to c;", 3);
        breaks("move b to c;", 3);
        breaks("move c to c;", 3);
        breaks("remove a; move a to c;", 3);
        holds("move c to a; move b to c; move b to a; move c to b;");
        holds("move c to r; move a to c;");
        holds("remove b; move a to c;");
    }

    private static void cells() {
        Bench.about("Term 2: break 4: a cell that the array has not (its cells are numbered from 0)");
        for (String none : new String[] {"3", "-1", "4", "400", "999", "1000", "32767", LEAST}) {
            breaks("x = t[" + none + "];", 4);
            breaks("t[" + none + "] = 1;", 4);
        }
        breaks("one1[1] = 1;", 4);
        breaks("say one1[-1];", 4);
        holds("t[0] = 1; t[2] = t[0]; one1[0] = t[1]; x = t[t[0]];");
    }

    private static void callsWithin() {
        Bench.about("Term 2: break 5: more than 30 calls within one another");
        holds("say down1(29);");
        breaks("say down1(30);", 5);
        breaks("say down1(31);", 5);
        breaks("down1(32767);", 5);
        holds("say down1(29) + down1(29);");
        holds("say f(f(f(f(f(f(f(f(f(f(f(f(f(f(f(f(f(f(f(f(f(f(f(f(f(f(f(1)))))))))))))))))))))))))));");
        holds("let i = 0; while i < 100 { f(1); i = i + 1; }");
        Bench.about("Term 2: break 5 counts anew in each on and each");
        String twice = "room r \"R\" {} def d(n) { if n { d(n - 1); } } on wait { d(29); } on wait { d(29); } each { d(29); } each { d(%); }";
        Bench.same("30 in each", "1 Time passes.\n", Bench.playing(twice.replace("%", "29")).play("z"));
        Bench.same("31 in the last", "2 [break 5]\n", Bench.playing(twice.replace("%", "30")).play("z"));
    }

    private static void passes() {
        Bench.about("Term 2: break 6: more than 20000 passes of while in one turn");
        holds("let i = 0; while i < 20000 { i = i + 1; }");
        breaks("let i = 0; while i < 20001 { i = i + 1; }", 6);
        breaks("while 1 {}", 6);
        breaks("while 1 { while 0 {} }", 6);
        breaks("let i = 0; while 1 { i = i + 1; if i == 20001 { say 1 / 0; } }", 6);
        breaks("let i = 0; while 1 { i = i + 1; if i == 20000 { say 1 / 0; } }", 1);
        holds("let i = 0; while i < 199 { i = i + 1; let j = 0; while j < 99 { j = j + 1; } } let k = 0; while k < 100 { k = k + 1; }");
        breaks("let i = 0; while i < 199 { i = i + 1; let j = 0; while j < 99 { j = j + 1; } } let k = 0; while k < 101 { k = k + 1; }", 6);
        Bench.about("Term 2: what while is asked, and is not, is no pass");
        holds("let i = 0; while i < 20000 { i = i + 1; while 0 {} }");
    }

    private static void callsAndPasses() {
        Bench.about("Term 2: break 6: passes of while, and calls, count together");
        holds("let i = 0; while i < 10000 { i = i + 1; g(); }");
        breaks("let i = 0; while i < 10000 { i = i + 1; g(); } g();", 6);
        breaks("g(); let i = 0; while i < 10000 { i = i + 1; g(); }", 6);
        holds("let i = 0; while i < 5000 { i = i + 1; x = f(f(f(1))); }");
        breaks("let i = 0; while i < 5000 { i = i + 1; x = f(f(f(1))); } while i { i = 0; }", 6);
        holds("let i = 0; while i < 645 { i = i + 1; down1(29); } g(); g(); g(); g(); g();");
        breaks("let i = 0; while i < 645 { i = i + 1; down1(29); } g(); g(); g(); g(); g(); g();", 6);
    }

    private static void oneTurn() {
        Bench.about("Term 2: break 6 is of one turn, with its rules, all of take all, and time");
        String story = "room r \"R\" {} thing a \"A\" { in r; } thing b \"B\" { in r; } var n = 0; def run(k) { while k { k = k - 1; } } def one1() {} "
                + "verb more more alone; on more { n = 1; } on wait { run(9998); } on wait { run(9998); } on take { run(9998); } "
                + "each { one1(); } each { if n == 1 { one1(); } n = 0; }";
        Bench bench = Bench.playing(story);
        Bench.same("19999 and no more", "1 Time passes.\n", bench.play("z"));
        Bench.same("the next turn begins anew", "1 Time passes.\n", bench.play("z"));
        Bench.same("take all", "1 B: Taken.\nA: Taken.\n", bench.play("take all"));
        bench = Bench.playing(story.replace("each { one1(); }", "each { one1(); one1(); }"));
        Bench.same("20000", "1 Time passes.\n", bench.play("z"));
        Bench.same("20000 of take all", "1 B: Taken.\nA: Taken.\n", bench.play("take all"));
        bench = Bench.playing(story.replace("each { one1(); }", "each { one1(); one1(); one1(); }"));
        Bench.same("20001", "2 [break 6]\n", bench.play("z"));
        Bench.same("20001 of take all", "2 [break 6]\n", bench.play("take all"));
        Bench.same("nothing was taken", 2, bench.house.holder(3));
        Bench.same("a turn behind a break begins anew", "1 Nothing happens.\n", bench.play("more"));
    }

    private static void sixBeforeFive() {
        Bench.about("Term 2: of a call 6 first, then 5");
        holds("let i = 0; while i < 19970 { i = i + 1; } down1(29);");
        breaks("let i = 0; while i < 19970 { i = i + 1; } down1(30);", 6);
        breaks("let i = 0; while i < 19969 { i = i + 1; } down1(30);", 5);
        breaks("let i = 0; while i < 19971 { i = i + 1; } down1(30);", 6);
        breaks("let i = 0; while i < 19971 { i = i + 1; } down1(29);", 6);
    }

    private static void workedOutFirst() {
        Bench.about("Term 2: what a statement or a call has is worked out from the left to the right first (both sides of in, of move, "
                + "the number of a cell and what it gets)");
        breaks("move 1 / 0 to 99;", 1);
        breaks("move 99 to 1 / 0;", 1);
        breaks("move r to 1 / 0;", 1);
        breaks("move a to t[3];", 4);
        breaks("move t[3] to 1 / 0;", 4);
        breaks("x = 99 in 1 / 0;", 1);
        breaks("x = 0 in t[9];", 4);
        breaks("x = t[9] in 1 / 0;", 4);
        breaks("t[9] = 1 / 0;", 1);
        breaks("t[9] = holder 0;", 2);
        breaks("t[1 / 0] = holder 0;", 1);
        breaks("t[t[9]] = 1 / 0;", 4);
        breaks("f(1 / 0);", 1);
        breaks("down1(30 + 1 / 0);", 1);
        breaks("while 1 { f(holder 0); }", 2);
        breaks("x = holder 99 / 0;", 2);
        breaks("x = 1 / 0 + holder 99;", 1);
        breaks("x = holder 99 + 1 / 0;", 2);
        breaks("x = t[9] * (1 / 0);", 4);
        breaks("x = 1 / 0 == t[9];", 1);
        breaks("set 1 / 0 light;", 1);
        breaks("x = 1 / 0 has light;", 1);
        breaks("remove holder 0 / 0;", 2);
        breaks("say name (1 / 0);", 1);
        breaks("x = random (1 / 0);", 1);
    }

    private static void ofSeveral() {
        Bench.about("Term 2: of several BREAKS: 2 of the left one, 2 of the right one, 2 of what can't be moved, 3");
        breaks("move r to r;", 2);
        breaks("move player to player;", 2);
        breaks("move 99 to 99;", 2);
        breaks("move q to a;", 2);
        breaks("move a to a;", 3);
        breaks("move 0 to 0;", 2);
    }

    private static void tellingForItself() {
        Bench.about("Term 2: each TELLING for itself, told before the next one is looked at");
        breaks("say 1, name 99, 1 / 0;", 2);
        breaks("say 1 / 0, name 99;", 1);
        breaks("say name 99, 1 / 0;", 2);
        Bench.same("what is told meanwhile", "1 ab1c2d",
                Bench.worth("def tell(n) { if n == 1 { say \"b\"; } else { say \"c\"; } return n; }", "\"a\", tell(1), tell(2), \"d\""));
        Bench.same("what is changed meanwhile", "1 05061", Bench.worth("var x = 5; thing a \"A\" { in r; } def up1() { x = x + 1; remove a; }",
                "a in 0, x, up1(), x, a in 0"));
    }

    private static void allIsAsBefore() {
        Bench.about("Term 2: when a turn BREAKS, all is as before it (the SEED, TURNS, it, what again means, too), and OUT is just [break n] and a new line");
        Bench bench = Bench.playing("room r \"R\" { exit up q; } room q \"Q\" {} thing a \"A\" { in r; word aa; } thing b \"B\" { in r; word bb; container; } "
                + "array t[2]; var n = 3; on take b { say \"told\"; n = random 9; t[1] = 7; move a to b; remove b; set r light; clear b container; "
                + "move player to q; say 1 / 0; } each { n = n + 1; }");
        bench.play("x aa");
        String before = state(bench);
        bench.house.save(0);
        Bench.same("OUT", "2 [break 1]\n", bench.play("take bb"));
        Bench.same("all", before, state(bench));
        Bench.same("what again means", "1 You see nothing special.\n", bench.play("g"));
        bench.house.restore(0);
        bench.play("take bb");
        Bench.same("all, behind restore", before.replace("undo 1", "undo 0"), state(bench));
        Bench.same("it answers 2 again", "2 [break 1]\n", bench.play("take bb"));
        Bench.same("nothing can be undone", false, bench.house.undo());
        Bench.about("Term 2: a turn that BREAKS is no command that can be undone, nor one that again means");
        bench.house.begin(4);
        bench.play("take bb");
        Bench.same("undo", 0, bench.house.told(10));
        Bench.same("again", "0 There is nothing to repeat.\n", bench.play("g"));
        Bench.same("it", "0 You see no such thing.\n", bench.play("x it"));
    }

    private static String state(Bench bench) {
        StoryHouse house = bench.house;
        StringBuilder text = new StringBuilder();
        for (int i = 1; i <= house.told(0); i++) {
            text.append(house.holder(i)).append(house.first(i, false)).append(house.first(i, true)).append(house.has(i, 0)).append(house.has(i, 3)).append(' ');
        }
        return text.append(house.value(0)).append(house.cell(0, 1)).append(" turns ").append(house.told(7)).append(" ended ").append(house.told(8))
                .append(" it ").append(house.told(9)).append(" undo ").append(house.told(10)).append(" seed ").append(house.told(11)).toString();
    }

    private static void wherever() {
        Bench.about("Term 2: a turn BREAKS in a def, an on, an each, behind a win that was not reached");
        String story = "room r \"R\" {} thing a \"A\" { in r; word aa; } thing b \"B\" { in r; word bb; } var n = 0; def f() { say 1 / 0; win; } verb v v alone; "
                + "on v { f(); } on take b { f(); } each { n = n + 1; } each { if n == 2 { f(); } }";
        Bench bench = Bench.playing(story);
        Bench.same("in a def of an on", "2 [break 1]\n", bench.play("v"));
        Bench.same("not ended", 0, bench.house.told(8));
        bench.play("z");
        Bench.same("in a def of an each", "2 [break 1]\n", bench.play("take aa"));
        Bench.same("nothing was taken", 2, bench.house.holder(3));
        Bench.same("TURNS", 1, bench.house.told(7));
        Bench.same("one each went back", 1, bench.house.value(0));
        bench = Bench.playing(story.replace("thing b", "thing c \"C\" { in r; } thing b").replace("n == 2", "0"));
        Bench.same("in the midst of take all", "2 [break 1]\n", bench.play("take all"));
        Bench.same("none was taken", "2 2 2", bench.house.holder(3) + " " + bench.house.holder(4) + " " + bench.house.holder(5));
        Bench.same("nothing is it", 0, bench.house.told(9));
        Bench.same("the order stays", 5, bench.house.first(2, false));
    }
}
