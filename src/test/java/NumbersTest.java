/** Section 2 of the terms, by way of promise 6: what numbers, tellings and statements are worth, and BREAKS. */
public final class NumbersTest {
    private static final String THINGS =
            "thing a \"A\" { in r; } thing b \"B^b\" { in a; } thing c \"C\" { in a; open; } thing d \"D\" {} ";
    private static final String ITEMS = THINGS
            + "var x = -32767; var y = 5; array t[3]; def f(n) { return n * 2; } def g() { y = y + 1; } "
            + "def h(n) { if n == 0 { return 0; } return h(n - 1) + 1; } ";

    public static void main(String[] args) {
        arithmetic();
        truths();
        world();
        calls();
        statements();
        breaks();
        breakOrder();
        turns();
        Bench.end();
    }

    private static void worth(String expression, String due) {
        Bench.same(expression, "1 " + due, Bench.worth(ITEMS, expression));
    }

    private static void breaking(String statement, int number) {
        Bench bench = Bench.playing("room r \"R\" {} " + ITEMS + "on wait { say \"lost\"; y = 77; " + statement + " done; }");
        Bench.same(statement, "2 [break " + number + "]\n", bench.play("z"));
        Bench.same("all is as before " + statement, 5, bench.house.value(1));
        Bench.same("no turn of " + statement, 0, bench.house.told(7));
        Bench.same("no undo of " + statement, 0, bench.house.told(10));
    }

    private static void going(String statements, String due) {
        Bench bench = Bench.playing("room r \"R\" {} room q \"Q\" {} " + ITEMS + "on wait { " + statements + " done; }");
        Bench.same(statements, "1 " + due, bench.play("z"));
    }

    private static void arithmetic() {
        worth("1 + 2 * 3 - 4", "3");
        worth("(1 + 2) * 3", "9");
        worth("10 - 3 - 2", "5");
        worth("-7 / 2, \" \", 7 / -2, \" \", -7 / -2", "-3 -3 3");
        worth("-7 % 3, \" \", 7 % -3", "-1 1");
        worth("32767 + 1", "-32768");
        worth("-32767 - 2", "32767");
        worth("300 * 300", "24464");
        worth("-(-32767 - 1)", "-32768");
        worth("(-32767 - 1) / -1", "-32768");
        worth("(-32767 - 1) % -1", "0");
        worth("x", "-32767");
        worth("- - 5", "5");
        worth("0", "0");
        worth("10, 100, 1000, 10000, -9, -10", "10100100010000-9-10");
    }

    private static void truths() {
        worth("1 == 1, 1 == 2, 1 != 2, 1 != 1", "1010");
        worth("1 < 2, 2 < 2, 2 <= 2, 3 <= 2, 2 > 1, 2 > 2, 2 >= 2, 1 >= 2", "10101010");
        worth("not 0, not 5, not not 5", "101");
        worth("5 or 0, 0 or 5, 0 or 0", "110");
        worth("5 and 6, 5 and 0, 0 and 5", "100");
        worth("1 or 1 / 0, 0 and 1 / 0", "10");
        worth("0 or 0 or 3, 1 and 2 and 3, 1 and 0 or 1, 1 or 0 and 0", "1111");
        worth("not 1 == 2", "1");
        worth("1 + (2 == 2) * 3", "4");
        worth("y and 1", "1");
    }

    private static void world() {
        worth("r, a, b, player, here", "23412");
        worth("holder a, holder b, holder d, holder r, holder player", "23002");
        worth("first r, first a, first b, first d", "3500");
        worth("next a, next c, next b, next player, next r", "14000");
        worth("a in r, a in 0, d in 0, b in r, b in 99, r in 0", "101001");
        worth("holder b in r, first a has open, b has open", "110");
        worth("name a, name player, name b, name holder b", "AyourselfB\nbA");
        worth("noun, second", "00");
        worth("\"a^b\", \"\"", "a\nb");
        Bench bench = Bench.playing("room r \"R\" {} on wait { say random 6, \" \", random 0, \" \", random (-1), \" \", random 100; done; }");
        bench.house.begin(42);
        Bench.same("random", "1 3 0 0 61", bench.play("z"));
        Bench.same("drawn twice", -1501269880, bench.house.told(11));
        bench = Bench.playing("room r \"R\" {} on wait { say random 1, random 1; done; }");
        Bench.same("of one", "1 11", bench.play("z"));
        Bench.same("drawn, too", (1 * 69069 + 1) * 69069 + 1, bench.house.told(11));
    }

    private static void calls() {
        worth("f(4), f(f(4)) + 1, g(), y", "81706");
        worth("h(29)", "29");
        worth("y, g(), y", "506");
        worth("g() + y, y + g()", "66");
        Bench.same("a let's place in each call", "1 120",
                Bench.worth("def f(n) { if n < 2 { return 1; } let m = f(n - 1); return n * m; }", "f(5)"));
        Bench.same("six in the list", "1 123456",
                Bench.worth("def f(a, b, c, d, e, g) { say a, b, c, d, e; return g; }", "f(1, 2, 3, 4, 5, 6)"));
    }

    private static void statements() {
        going("t[1] = 7; t[y - 4] = t[1] + 1; say t[0], t[1], t[2];", "080");
        going("let k = 1; while k < 4 { let m = k; k = k + 1; m = m * 2; say m, k; }", "224364");
        going("if 0 { say 1; } else if 1 { say 2; } else { say 3; } say 4;", "24");
        going("if 0 { say 1; } else if 0 { say 2; } else { say 3; } say 4;", "34");
        going("while 0 { say 1; } say 2;", "2");
        going("move d to a; say first a, next d;", "76");
        going("move b to a; say first a, next b, next c;", "560");
        going("move a to player; say holder b, holder a, a in here;", "410");
        going("move player to q; say here, first q, holder player;", "313");
        going("remove a; say holder a, holder b, next a; remove a;", "040");
        going("set a light; set r hidden; set player open; say a has light, r has hidden, player has open;", "111");
        going("clear c open; clear c open; say c has open;", "0");
        going("move a to d + 100 - 100; say holder a;", "7");
        going("f(1); say y; g(); say y;", "56");
    }

    private static void breaks() {
        breaking("y = 1 / 0;", 1);
        breaking("y = 1 % (y - y);", 1);
        for (String none : new String[] {"0", "-1", "8", "32767"}) {
            breaking("y = holder (" + none + ");", 2);
            breaking("y = first (" + none + ");", 2);
            breaking("y = next (" + none + ");", 2);
            breaking("y = " + none + " in r;", 2);
            breaking("y = " + none + " has open;", 2);
            breaking("move " + none + " to r;", 2);
            breaking("move a to " + none + ";", 2);
            breaking("remove " + none + ";", 2);
            breaking("set " + none + " open;", 2);
            breaking("clear " + none + " open;", 2);
            breaking("say name (" + none + ");", 2);
        }
        breaking("move r to r;", 2);
        breaking("move player to a;", 2);
        breaking("move player to player;", 2);
        breaking("remove player;", 2);
        breaking("remove r;", 2);
        breaking("move a to a;", 3);
        breaking("move a to b;", 3);
        breaking("y = t[3];", 4);
        breaking("y = t[-1];", 4);
        breaking("t[3] = 1;", 4);
        breaking("t[-32767] = 1;", 4);
        breaking("h(30);", 5);
        breaking("while 1 {}", 6);
    }

    private static void breakOrder() {
        breaking("move 1 / 0 to 99;", 1);
        breaking("move 99 to 1 / 0;", 1);
        breaking("y = 99 in 1 / 0;", 1);
        breaking("t[9] = 1 / 0;", 1);
        breaking("y = t[9] / 0;", 4);
        breaking("y = holder 99 / 0;", 2);
        breaking("y = 1 / 0 + holder 99;", 1);
        breaking("f(1 / 0);", 1);
        breaking("h(32767);", 5);
        breaking("say 1, name 99, 1 / 0;", 2);
        breaking("set a light; remove b; g(); t[9] = 0; win;", 4);
    }

    /** Passes and calls count together, in one turn; a call that is too much is so first of all. */
    private static void turns() {
        String pass = "room r \"R\" {} var n = 0; var k = 0; def f() {} def deep(i) { if i == 0 { f(); } else { deep(i - 1); } } "
                + "verb go1 run alone; verb go2 call alone; verb go3 deep alone; verb more more alone; verb less less alone; "
                + "on go1 { let i = 0; while i < n { i = i + 1; } } on go2 { let i = 0; while i < n { i = i + 1; f(); } } "
                + "on go3 { let i = 0; while i < n { i = i + 1; } deep(29); } on more { n = n + 1; } on less { n = n - 1; } each { f(); }";
        Bench bench = Bench.playing(pass.replace("var n = 0", "var n = 19999"));
        Bench.same("19999 passes and a call", "1 Nothing happens.\n", bench.play("run"));
        bench.play("more");
        Bench.same("20000 passes and a call", "2 [break 6]\n", bench.play("run"));
        bench = Bench.playing(pass.replace("var n = 0", "var n = 9999"));
        Bench.same("9999 twice and a call", "1 Nothing happens.\n", bench.play("call"));
        bench.play("more");
        Bench.same("10000 twice and a call", "2 [break 6]\n", bench.play("call"));
        bench = Bench.playing(pass.replace("var n = 0", "var n = 19969"));
        Bench.same("the 31st call, and not too many", "2 [break 5]\n", bench.play("deep"));
        bench = Bench.playing(pass.replace("deep(29)", "deep(28)").replace("var n = 0", "var n = 19969"));
        Bench.same("30 calls within one another, 20000 with the each", "1 Nothing happens.\n", bench.play("deep"));
        bench = Bench.playing(pass.replace("var n = 0", "var n = 19970").replace("deep(29)", "deep(30)"));
        Bench.same("the 31st call is the 20001st", "2 [break 6]\n", bench.play("deep"));
    }
}
